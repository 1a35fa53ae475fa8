section
-- ===== PART A: goes FIRST, ahead of the names: the tables' words, and 'selects' of the private methods out of them =====
/-- a private method of a class that the tables say can be made, by its rows of tables_1 -/
def lw_okq (q : MethodName × Nat) : Prop := (q.1.cls ≠ "java/lang/invoke/MethodHandle" ∧ q.1.cls ≠ "java/lang/invoke/VarHandle") ∧ Cond.instantiable q.1.cls q.2 ∈ tables_1 ∧ Cond.privateMethod q.1 ∈ tables_1 ∧ Cond.instanceMethod q.1 ∈ tables_1
theorem lw_p0 : lw_okq (⟨"FormatMill", "hasRoomForArgument", "()Z"⟩, 9) := ⟨⟨by decide +kernel, by decide +kernel⟩, List.mem_of_getElem? (i := 8) (by decide +kernel), List.mem_of_getElem? (i := 150) (by decide +kernel), List.mem_of_getElem? (i := 151) (by decide +kernel)⟩
theorem lw_p1 : lw_okq (⟨"FormatMill", "nextArgument", "()LFormatMill$Text;"⟩, 9) := ⟨⟨by decide +kernel, by decide +kernel⟩, List.mem_of_getElem? (i := 8) (by decide +kernel), List.mem_of_getElem? (i := 154) (by decide +kernel), List.mem_of_getElem? (i := 155) (by decide +kernel)⟩
theorem lw_p2 : lw_okq (⟨"FormatMill$Place", "readFlags", "(LFormatMill$Text;I)I"⟩, 7) := ⟨⟨by decide +kernel, by decide +kernel⟩, List.mem_of_getElem? (i := 34) (by decide +kernel), List.mem_of_getElem? (i := 185) (by decide +kernel), List.mem_of_getElem? (i := 186) (by decide +kernel)⟩
theorem lw_p3 : lw_okq (⟨"FormatMill$Place", "setFlag", "(I)Z"⟩, 7) := ⟨⟨by decide +kernel, by decide +kernel⟩, List.mem_of_getElem? (i := 34) (by decide +kernel), List.mem_of_getElem? (i := 190) (by decide +kernel), List.mem_of_getElem? (i := 191) (by decide +kernel)⟩
theorem lw_p4 : lw_okq (⟨"FormatMill$Place", "readWidth", "(LFormatMill$Text;I)I"⟩, 7) := ⟨⟨by decide +kernel, by decide +kernel⟩, List.mem_of_getElem? (i := 34) (by decide +kernel), List.mem_of_getElem? (i := 194) (by decide +kernel), List.mem_of_getElem? (i := 195) (by decide +kernel)⟩
theorem lw_p5 : lw_okq (⟨"FormatMill", "fillPlace", "()I"⟩, 9) := ⟨⟨by decide +kernel, by decide +kernel⟩, List.mem_of_getElem? (i := 8) (by decide +kernel), List.mem_of_getElem? (i := 208) (by decide +kernel), List.mem_of_getElem? (i := 209) (by decide +kernel)⟩
theorem lw_p6 : lw_okq (⟨"FormatMill", "addPadded", "(ILFormatMill$Text;Z)I"⟩, 9) := ⟨⟨by decide +kernel, by decide +kernel⟩, List.mem_of_getElem? (i := 8) (by decide +kernel), List.mem_of_getElem? (i := 212) (by decide +kernel), List.mem_of_getElem? (i := 213) (by decide +kernel)⟩
theorem lw_p7 : lw_okq (⟨"FormatMill$Numeral", "readHexadecimal", "(LFormatMill$Text;IZ)Z"⟩, 1) := ⟨⟨by decide +kernel, by decide +kernel⟩, List.mem_of_getElem? (i := 67) (by decide +kernel), List.mem_of_getElem? (i := 228) (by decide +kernel), List.mem_of_getElem? (i := 229) (by decide +kernel)⟩
theorem lw_p8 : lw_okq (⟨"FormatMill$Numeral", "readDecimal", "(LFormatMill$Text;IZ)Z"⟩, 1) := ⟨⟨by decide +kernel, by decide +kernel⟩, List.mem_of_getElem? (i := 67) (by decide +kernel), List.mem_of_getElem? (i := 236) (by decide +kernel), List.mem_of_getElem? (i := 237) (by decide +kernel)⟩
theorem lw_p9 : lw_okq (⟨"FormatMill$Numeral", "takeDigitBelowZero", "(I)Z"⟩, 1) := ⟨⟨by decide +kernel, by decide +kernel⟩, List.mem_of_getElem? (i := 67) (by decide +kernel), List.mem_of_getElem? (i := 240) (by decide +kernel), List.mem_of_getElem? (i := 241) (by decide +kernel)⟩
theorem lw_p10 : lw_okq (⟨"FormatMill", "fillWithInteger", "(J)I"⟩, 9) := ⟨⟨by decide +kernel, by decide +kernel⟩, List.mem_of_getElem? (i := 8) (by decide +kernel), List.mem_of_getElem? (i := 247) (by decide +kernel), List.mem_of_getElem? (i := 248) (by decide +kernel)⟩
theorem lw_p11 : lw_okq (⟨"FormatMillModel", "lay", "(I)V"⟩, 20) := ⟨⟨by decide +kernel, by decide +kernel⟩, List.mem_of_getElem? (i := 263) (by decide +kernel), List.mem_of_getElem? (i := 335) (by decide +kernel), List.mem_of_getElem? (i := 336) (by decide +kernel)⟩
theorem lw_p12 : lw_okq (⟨"FormatMillModel", "decimal", "(J)V"⟩, 20) := ⟨⟨by decide +kernel, by decide +kernel⟩, List.mem_of_getElem? (i := 263) (by decide +kernel), List.mem_of_getElem? (i := 355) (by decide +kernel), List.mem_of_getElem? (i := 356) (by decide +kernel)⟩
theorem lw_p13 : lw_okq (⟨"FormatMillModel", "digits", "(J)V"⟩, 20) := ⟨⟨by decide +kernel, by decide +kernel⟩, List.mem_of_getElem? (i := 263) (by decide +kernel), List.mem_of_getElem? (i := 359) (by decide +kernel), List.mem_of_getElem? (i := 360) (by decide +kernel)⟩
theorem lw_p14 : lw_okq (⟨"FormatMillModel", "ahead", "(I)V"⟩, 20) := ⟨⟨by decide +kernel, by decide +kernel⟩, List.mem_of_getElem? (i := 263) (by decide +kernel), List.mem_of_getElem? (i := 364) (by decide +kernel), List.mem_of_getElem? (i := 365) (by decide +kernel)⟩
theorem lw_p15 : lw_okq (⟨"FormatMillModel", "put", "(I)Z"⟩, 20) := ⟨⟨by decide +kernel, by decide +kernel⟩, List.mem_of_getElem? (i := 263) (by decide +kernel), List.mem_of_getElem? (i := 376) (by decide +kernel), List.mem_of_getElem? (i := 377) (by decide +kernel)⟩
def lw_privs_1 : List (MethodName × Nat) := [(⟨"FormatMill", "hasRoomForArgument", "()Z"⟩, 9), (⟨"FormatMill", "nextArgument", "()LFormatMill$Text;"⟩, 9), (⟨"FormatMill$Place", "readFlags", "(LFormatMill$Text;I)I"⟩, 7), (⟨"FormatMill$Place", "setFlag", "(I)Z"⟩, 7), (⟨"FormatMill$Place", "readWidth", "(LFormatMill$Text;I)I"⟩, 7), (⟨"FormatMill", "fillPlace", "()I"⟩, 9), (⟨"FormatMill", "addPadded", "(ILFormatMill$Text;Z)I"⟩, 9), (⟨"FormatMill$Numeral", "readHexadecimal", "(LFormatMill$Text;IZ)Z"⟩, 1), (⟨"FormatMill$Numeral", "readDecimal", "(LFormatMill$Text;IZ)Z"⟩, 1), (⟨"FormatMill$Numeral", "takeDigitBelowZero", "(I)Z"⟩, 1), (⟨"FormatMill", "fillWithInteger", "(J)I"⟩, 9), (⟨"FormatMillModel", "lay", "(I)V"⟩, 20), (⟨"FormatMillModel", "decimal", "(J)V"⟩, 20), (⟨"FormatMillModel", "digits", "(J)V"⟩, 20), (⟨"FormatMillModel", "ahead", "(I)V"⟩, 20), (⟨"FormatMillModel", "put", "(I)Z"⟩, 20)]
theorem lw_r1 : ∀ q ∈ lw_privs_1, lw_okq q := List.forall_mem_cons.mpr ⟨lw_p0, List.forall_mem_cons.mpr ⟨lw_p1, List.forall_mem_cons.mpr ⟨lw_p2, List.forall_mem_cons.mpr ⟨lw_p3, List.forall_mem_cons.mpr ⟨lw_p4, List.forall_mem_cons.mpr ⟨lw_p5, List.forall_mem_cons.mpr ⟨lw_p6, List.forall_mem_cons.mpr ⟨lw_p7, List.forall_mem_cons.mpr ⟨lw_p8, List.forall_mem_cons.mpr ⟨lw_p9, List.forall_mem_cons.mpr ⟨lw_p10, List.forall_mem_cons.mpr ⟨lw_p11, List.forall_mem_cons.mpr ⟨lw_p12, List.forall_mem_cons.mpr ⟨lw_p13, List.forall_mem_cons.mpr ⟨lw_p14, List.forall_mem_cons.mpr ⟨lw_p15, fun _ h => absurd h List.not_mem_nil⟩⟩⟩⟩⟩⟩⟩⟩⟩⟩⟩⟩⟩⟩⟩⟩
theorem lw_p16 : lw_okq (⟨"FormatMillModel", "readPlace", "()Z"⟩, 20) := ⟨⟨by decide +kernel, by decide +kernel⟩, List.mem_of_getElem? (i := 263) (by decide +kernel), List.mem_of_getElem? (i := 380) (by decide +kernel), List.mem_of_getElem? (i := 381) (by decide +kernel)⟩
theorem lw_p17 : lw_okq (⟨"FormatMillModel", "flag", "()Z"⟩, 20) := ⟨⟨by decide +kernel, by decide +kernel⟩, List.mem_of_getElem? (i := 263) (by decide +kernel), List.mem_of_getElem? (i := 384) (by decide +kernel), List.mem_of_getElem? (i := 385) (by decide +kernel)⟩
theorem lw_p18 : lw_okq (⟨"FormatMillModel", "filled", "(I)I"⟩, 20) := ⟨⟨by decide +kernel, by decide +kernel⟩, List.mem_of_getElem? (i := 263) (by decide +kernel), List.mem_of_getElem? (i := 389) (by decide +kernel), List.mem_of_getElem? (i := 390) (by decide +kernel)⟩
theorem lw_p19 : lw_okq (⟨"FormatMillModel", "fill", "([BIII)Z"⟩, 20) := ⟨⟨by decide +kernel, by decide +kernel⟩, List.mem_of_getElem? (i := 263) (by decide +kernel), List.mem_of_getElem? (i := 393) (by decide +kernel), List.mem_of_getElem? (i := 394) (by decide +kernel)⟩
theorem lw_p20 : lw_okq (⟨"FormatMillModel", "puts", "(II)Z"⟩, 20) := ⟨⟨by decide +kernel, by decide +kernel⟩, List.mem_of_getElem? (i := 263) (by decide +kernel), List.mem_of_getElem? (i := 397) (by decide +kernel), List.mem_of_getElem? (i := 398) (by decide +kernel)⟩
theorem lw_p21 : lw_okq (⟨"FormatMillModel", "isInteger", "(I)Z"⟩, 20) := ⟨⟨by decide +kernel, by decide +kernel⟩, List.mem_of_getElem? (i := 263) (by decide +kernel), List.mem_of_getElem? (i := 401) (by decide +kernel), List.mem_of_getElem? (i := 402) (by decide +kernel)⟩
theorem lw_p22 : lw_okq (⟨"FormatMillModel", "isHex", "(IIZ)Z"⟩, 20) := ⟨⟨by decide +kernel, by decide +kernel⟩, List.mem_of_getElem? (i := 263) (by decide +kernel), List.mem_of_getElem? (i := 405) (by decide +kernel), List.mem_of_getElem? (i := 406) (by decide +kernel)⟩
theorem lw_p23 : lw_okq (⟨"FormatMillModel", "isDecimal", "(IIZ)Z"⟩, 20) := ⟨⟨by decide +kernel, by decide +kernel⟩, List.mem_of_getElem? (i := 263) (by decide +kernel), List.mem_of_getElem? (i := 412) (by decide +kernel), List.mem_of_getElem? (i := 413) (by decide +kernel)⟩
theorem lw_p24 : lw_okq (⟨"FormatMillModel", "bits", "(JII)V"⟩, 20) := ⟨⟨by decide +kernel, by decide +kernel⟩, List.mem_of_getElem? (i := 263) (by decide +kernel), List.mem_of_getElem? (i := 418) (by decide +kernel), List.mem_of_getElem? (i := 419) (by decide +kernel)⟩
def lw_privs_2 : List (MethodName × Nat) := [(⟨"FormatMillModel", "readPlace", "()Z"⟩, 20), (⟨"FormatMillModel", "flag", "()Z"⟩, 20), (⟨"FormatMillModel", "filled", "(I)I"⟩, 20), (⟨"FormatMillModel", "fill", "([BIII)Z"⟩, 20), (⟨"FormatMillModel", "puts", "(II)Z"⟩, 20), (⟨"FormatMillModel", "isInteger", "(I)Z"⟩, 20), (⟨"FormatMillModel", "isHex", "(IIZ)Z"⟩, 20), (⟨"FormatMillModel", "isDecimal", "(IIZ)Z"⟩, 20), (⟨"FormatMillModel", "bits", "(JII)V"⟩, 20)]
theorem lw_r2 : ∀ q ∈ lw_privs_2, lw_okq q := List.forall_mem_cons.mpr ⟨lw_p16, List.forall_mem_cons.mpr ⟨lw_p17, List.forall_mem_cons.mpr ⟨lw_p18, List.forall_mem_cons.mpr ⟨lw_p19, List.forall_mem_cons.mpr ⟨lw_p20, List.forall_mem_cons.mpr ⟨lw_p21, List.forall_mem_cons.mpr ⟨lw_p22, List.forall_mem_cons.mpr ⟨lw_p23, List.forall_mem_cons.mpr ⟨lw_p24, fun _ h => absurd h List.not_mem_nil⟩⟩⟩⟩⟩⟩⟩⟩⟩
def lw_privs : List (MethodName × Nat) := lw_privs_1 ++ (lw_privs_2)
def lw_tbl : List Cond := k2_sels lw_privs ++ tables_1
theorem lw_privs_ok : ∀ q ∈ lw_privs, lw_okq q := by
  show ∀ q ∈ lw_privs_1 ++ (lw_privs_2), lw_okq q
  exact List.forall_mem_append.mpr ⟨lw_r1, lw_r2⟩

def RX0 : String := "FormatMill$Numeral"
def TX0 : u_T := fun k => match k with
  | _ => ("FormatMill$Numeral", "value", "J", false)
def tyX0 : Nat → FieldType := fun k => match k with
  | _ => .long
theorem nmX0 : ∀ a, a < 1 → ∀ b, b < 1 → a ≠ b → (TX0 a).2.1 ≠ (TX0 b).2.1 := by decide +kernel
theorem tyX0_ok : ∀ k, k < 1 → parseFieldDescriptor (TX0 k).2.2.1 = some (tyX0 k) := by decide +kernel
def RX1 : String := "FormatMill$Place"
def TX1 : u_T := fun k => match k with
  | 0 => ("FormatMill$Place", "left", "Z", false)
  | 1 => ("FormatMill$Place", "zeros", "Z", false)
  | 2 => ("FormatMill$Place", "plus", "Z", false)
  | 3 => ("FormatMill$Place", "blank", "Z", false)
  | 4 => ("FormatMill$Place", "width", "I", false)
  | 5 => ("FormatMill$Place", "kind", "I", false)
  | _ => ("FormatMill$Place", "behind", "I", false)
def tyX1 : Nat → FieldType := fun k => match k with
  | 0 => .boolean
  | 1 => .boolean
  | 2 => .boolean
  | 3 => .boolean
  | 4 => .int
  | 5 => .int
  | _ => .int
theorem nmX1 : ∀ a, a < 7 → ∀ b, b < 7 → a ≠ b → (TX1 a).2.1 ≠ (TX1 b).2.1 := by decide +kernel
theorem tyX1_ok : ∀ k, k < 7 → parseFieldDescriptor (TX1 k).2.2.1 = some (tyX1 k) := by decide +kernel
def RX2 : String := "FormatMill$Text"
def TX2 : u_T := fun k => match k with
  | 0 => ("FormatMill$Text", "bytes", "[I", true)
  | _ => ("FormatMill$Text", "length", "I", false)
def tyX2 : Nat → FieldType := fun k => match k with
  | 0 => .array .int
  | _ => .int
theorem nmX2 : ∀ a, a < 2 → ∀ b, b < 2 → a ≠ b → (TX2 a).2.1 ≠ (TX2 b).2.1 := by decide +kernel
theorem tyX2_ok : ∀ k, k < 2 → parseFieldDescriptor (TX2 k).2.2.1 = some (tyX2 k) := by decide +kernel
def RX3 : String := "FormatMill"
def TX3 : u_T := fun k => match k with
  | 0 => ("FormatMill", "tape", "LFormatMill$Text;", true)
  | 1 => ("FormatMill", "pattern", "LFormatMill$Text;", true)
  | 2 => ("FormatMill", "made", "LFormatMill$Text;", true)
  | 3 => ("FormatMill", "arguments", "[LFormatMill$Text;", true)
  | 4 => ("FormatMill", "argumentCount", "I", false)
  | 5 => ("FormatMill", "taken", "I", false)
  | 6 => ("FormatMill", "place", "LFormatMill$Place;", true)
  | 7 => ("FormatMill", "numeral", "LFormatMill$Numeral;", true)
  | _ => ("FormatMill", "digits", "LFormatMill$Text;", true)
def tyX3 : Nat → FieldType := fun k => match k with
  | 0 => .object "FormatMill$Text"
  | 1 => .object "FormatMill$Text"
  | 2 => .object "FormatMill$Text"
  | 3 => .array (.object "FormatMill$Text")
  | 4 => .int
  | 5 => .int
  | 6 => .object "FormatMill$Place"
  | 7 => .object "FormatMill$Numeral"
  | _ => .object "FormatMill$Text"
theorem nmX3 : ∀ a, a < 9 → ∀ b, b < 9 → a ≠ b → (TX3 a).2.1 ≠ (TX3 b).2.1 := by decide +kernel
theorem tyX3_ok : ∀ k, k < 9 → parseFieldDescriptor (TX3 k).2.2.1 = some (tyX3 k) := by decide +kernel
def RX4 : String := "FormatMillModel"
def TX4 : u_T := fun k => match k with
  | 0 => ("FormatMillModel", "tape", "[B", true)
  | 1 => ("FormatMillModel", "text", "[B", true)
  | 2 => ("FormatMillModel", "words", "[B", true)
  | 3 => ("FormatMillModel", "out", "[B", true)
  | 4 => ("FormatMillModel", "taped", "I", false)
  | 5 => ("FormatMillModel", "size", "I", false)
  | 6 => ("FormatMillModel", "many", "I", false)
  | 7 => ("FormatMillModel", "made", "I", false)
  | 8 => ("FormatMillModel", "outSize", "I", false)
  | 9 => ("FormatMillModel", "wordSize", "[I", true)
  | 10 => ("FormatMillModel", "at", "I", false)
  | 11 => ("FormatMillModel", "width", "I", false)
  | 12 => ("FormatMillModel", "kind", "I", false)
  | 13 => ("FormatMillModel", "left", "Z", false)
  | 14 => ("FormatMillModel", "zeros", "Z", false)
  | 15 => ("FormatMillModel", "plus", "Z", false)
  | 16 => ("FormatMillModel", "blank", "Z", false)
  | 17 => ("FormatMillModel", "piece", "[B", true)
  | 18 => ("FormatMillModel", "from", "I", false)
  | _ => ("FormatMillModel", "value", "J", false)
def tyX4 : Nat → FieldType := fun k => match k with
  | 0 => .array .byte
  | 1 => .array .byte
  | 2 => .array .byte
  | 3 => .array .byte
  | 4 => .int
  | 5 => .int
  | 6 => .int
  | 7 => .int
  | 8 => .int
  | 9 => .array .int
  | 10 => .int
  | 11 => .int
  | 12 => .int
  | 13 => .boolean
  | 14 => .boolean
  | 15 => .boolean
  | 16 => .boolean
  | 17 => .array .byte
  | 18 => .int
  | _ => .long
theorem nmX4 : ∀ a, a < 20 → ∀ b, b < 20 → a ≠ b → (TX4 a).2.1 ≠ (TX4 b).2.1 := by decide +kernel
theorem tyX4_ok : ∀ k, k < 20 → parseFieldDescriptor (TX4 k).2.2.1 = some (tyX4 k) := by decide +kernel
def RL : String := "FormatMillLaw"
abbrev cL_law : ByteArray := code
abbrev cX3_init : ByteArray := prog_1_method_1_code
def yX3_init : MethodName := ⟨RX3, "<init>", "()V"⟩
abbrev cX2_init : ByteArray := prog_4_method_1_code
def yX2_init : MethodName := ⟨RX2, "<init>", "(I)V"⟩
abbrev cX1_init : ByteArray := prog_3_method_1_code
def yX1_init : MethodName := ⟨RX1, "<init>", "()V"⟩
abbrev cX0_init : ByteArray := prog_2_method_1_code
def yX0_init : MethodName := ⟨RX0, "<init>", "()V"⟩
abbrev cX3_feed : ByteArray := prog_1_method_2_code
def yX3_feed : MethodName := ⟨RX3, "feed", "(IIIII)Z"⟩
abbrev cX2_hasRoomFor : ByteArray := prog_4_method_5_code
def yX2_hasRoomFor : MethodName := ⟨RX2, "hasRoomFor", "(I)Z"⟩
abbrev cX2_addFourBytes : ByteArray := prog_4_method_7_code
def yX2_addFourBytes : MethodName := ⟨RX2, "addFourBytes", "(I)V"⟩
abbrev cX2_add : ByteArray := prog_4_method_6_code
def yX2_add : MethodName := ⟨RX2, "add", "(I)Z"⟩
abbrev cX3_end : ByteArray := prog_1_method_3_code
def yX3_end : MethodName := ⟨RX3, "end", "(I)Z"⟩
abbrev cX2_shorten : ByteArray := prog_4_method_3_code
def yX2_shorten : MethodName := ⟨RX2, "shorten", "(I)Z"⟩
abbrev cX3_format : ByteArray := prog_1_method_4_code
def yX3_format : MethodName := ⟨RX3, "format", "()I"⟩
abbrev cX2_empty : ByteArray := prog_4_method_2_code
def yX2_empty : MethodName := ⟨RX2, "empty", "()V"⟩
abbrev cX2_addText : ByteArray := prog_4_method_9_code
def yX2_addText : MethodName := ⟨RX2, "addText", "(LFormatMill$Text;)V"⟩
abbrev cX2_at : ByteArray := prog_4_method_4_code
def yX2_at : MethodName := ⟨RX2, "at", "(I)I"⟩
abbrev cX3_argument : ByteArray := prog_1_method_5_code
def yX3_argument : MethodName := ⟨RX3, "argument", "()I"⟩
abbrev cX3_hasRoomForArgument : ByteArray := prog_1_method_10_code
def yX3_hasRoomForArgument : MethodName := ⟨RX3, "hasRoomForArgument", "()Z"⟩
abbrev cX3_nextArgument : ByteArray := prog_1_method_11_code
def yX3_nextArgument : MethodName := ⟨RX3, "nextArgument", "()LFormatMill$Text;"⟩
abbrev cX3_number : ByteArray := prog_1_method_6_code
def yX3_number : MethodName := ⟨RX3, "number", "(J)I"⟩
abbrev cX2_addDecimalDigits : ByteArray := prog_4_method_10_code
def yX2_addDecimalDigits : MethodName := ⟨RX2, "addDecimalDigits", "(J)V"⟩
abbrev cX3_clear : ByteArray := prog_1_method_7_code
def yX3_clear : MethodName := ⟨RX3, "clear", "()V"⟩
abbrev cX3_make : ByteArray := prog_1_method_8_code
def yX3_make : MethodName := ⟨RX3, "make", "()I"⟩
abbrev cX1_read : ByteArray := prog_3_method_2_code
def yX1_read : MethodName := ⟨RX1, "read", "(LFormatMill$Text;I)Z"⟩
abbrev cX1_readFlags : ByteArray := prog_3_method_4_code
def yX1_readFlags : MethodName := ⟨RX1, "readFlags", "(LFormatMill$Text;I)I"⟩
abbrev cX1_setFlag : ByteArray := prog_3_method_5_code
def yX1_setFlag : MethodName := ⟨RX1, "setFlag", "(I)Z"⟩
abbrev cX1_readWidth : ByteArray := prog_3_method_6_code
def yX1_readWidth : MethodName := ⟨RX1, "readWidth", "(LFormatMill$Text;I)I"⟩
abbrev cX3_isDecimalDigit : ByteArray := prog_1_method_15_code
def yX3_isDecimalDigit : MethodName := ⟨RX3, "isDecimalDigit", "(I)Z"⟩
abbrev cX1_isKind : ByteArray := prog_3_method_7_code
def yX1_isKind : MethodName := ⟨RX1, "isKind", "(I)Z"⟩
abbrev cX3_fillPlace : ByteArray := prog_1_method_12_code
def yX3_fillPlace : MethodName := ⟨RX3, "fillPlace", "()I"⟩
abbrev cX3_addPadded : ByteArray := prog_1_method_14_code
def yX3_addPadded : MethodName := ⟨RX3, "addPadded", "(ILFormatMill$Text;Z)I"⟩
abbrev cX2_addMany : ByteArray := prog_4_method_8_code
def yX2_addMany : MethodName := ⟨RX2, "addMany", "(II)V"⟩
abbrev cX0_read : ByteArray := prog_2_method_2_code
def yX0_read : MethodName := ⟨RX0, "read", "(LFormatMill$Text;)Z"⟩
abbrev cX0_readHexadecimal : ByteArray := prog_2_method_3_code
def yX0_readHexadecimal : MethodName := ⟨RX0, "readHexadecimal", "(LFormatMill$Text;IZ)Z"⟩
abbrev cX0_hexadecimalDigit : ByteArray := prog_2_method_6_code
def yX0_hexadecimalDigit : MethodName := ⟨RX0, "hexadecimalDigit", "(I)I"⟩
abbrev cX0_readDecimal : ByteArray := prog_2_method_4_code
def yX0_readDecimal : MethodName := ⟨RX0, "readDecimal", "(LFormatMill$Text;IZ)Z"⟩
abbrev cX0_takeDigitBelowZero : ByteArray := prog_2_method_5_code
def yX0_takeDigitBelowZero : MethodName := ⟨RX0, "takeDigitBelowZero", "(I)Z"⟩
abbrev cX3_fillWithInteger : ByteArray := prog_1_method_13_code
def yX3_fillWithInteger : MethodName := ⟨RX3, "fillWithInteger", "(J)I"⟩
abbrev cX1_signOf : ByteArray := prog_3_method_3_code
def yX1_signOf : MethodName := ⟨RX1, "signOf", "(J)I"⟩
abbrev cX2_addBits : ByteArray := prog_4_method_11_code
def yX2_addBits : MethodName := ⟨RX2, "addBits", "(JIII)V"⟩
abbrev cX3_madeAt : ByteArray := prog_1_method_9_code
def yX3_madeAt : MethodName := ⟨RX3, "madeAt", "(I)I"⟩
abbrev cX4_init : ByteArray := prog_6_method_1_code
def yX4_init : MethodName := ⟨RX4, "<init>", "()V"⟩
abbrev cX4_feed : ByteArray := prog_6_method_3_code
def yX4_feed : MethodName := ⟨RX4, "feed", "(IIIII)Z"⟩
abbrev cX4_lay : ByteArray := prog_6_method_2_code
def yX4_lay : MethodName := ⟨RX4, "lay", "(I)V"⟩
abbrev cX4_end : ByteArray := prog_6_method_4_code
def yX4_end : MethodName := ⟨RX4, "end", "(I)Z"⟩
abbrev cX4_format : ByteArray := prog_6_method_5_code
def yX4_format : MethodName := ⟨RX4, "format", "()I"⟩
abbrev cX4_argument : ByteArray := prog_6_method_6_code
def yX4_argument : MethodName := ⟨RX4, "argument", "()I"⟩
abbrev cX4_number : ByteArray := prog_6_method_7_code
def yX4_number : MethodName := ⟨RX4, "number", "(J)I"⟩
abbrev cX4_decimal : ByteArray := prog_6_method_10_code
def yX4_decimal : MethodName := ⟨RX4, "decimal", "(J)V"⟩
abbrev cX4_digits : ByteArray := prog_6_method_11_code
def yX4_digits : MethodName := ⟨RX4, "digits", "(J)V"⟩
abbrev cX4_ahead : ByteArray := prog_6_method_9_code
def yX4_ahead : MethodName := ⟨RX4, "ahead", "(I)V"⟩
abbrev cX4_clear : ByteArray := prog_6_method_8_code
def yX4_clear : MethodName := ⟨RX4, "clear", "()V"⟩
abbrev cX4_make : ByteArray := prog_6_method_23_code
def yX4_make : MethodName := ⟨RX4, "make", "()I"⟩
abbrev cX4_put : ByteArray := prog_6_method_19_code
def yX4_put : MethodName := ⟨RX4, "put", "(I)Z"⟩
abbrev cX4_readPlace : ByteArray := prog_6_method_18_code
def yX4_readPlace : MethodName := ⟨RX4, "readPlace", "()Z"⟩
abbrev cX4_flag : ByteArray := prog_6_method_17_code
def yX4_flag : MethodName := ⟨RX4, "flag", "()Z"⟩
abbrev cX4_filled : ByteArray := prog_6_method_22_code
def yX4_filled : MethodName := ⟨RX4, "filled", "(I)I"⟩
abbrev cX4_fill : ByteArray := prog_6_method_21_code
def yX4_fill : MethodName := ⟨RX4, "fill", "([BIII)Z"⟩
abbrev cX4_puts : ByteArray := prog_6_method_20_code
def yX4_puts : MethodName := ⟨RX4, "puts", "(II)Z"⟩
abbrev cX4_isInteger : ByteArray := prog_6_method_16_code
def yX4_isInteger : MethodName := ⟨RX4, "isInteger", "(I)Z"⟩
abbrev cX4_isHex : ByteArray := prog_6_method_14_code
def yX4_isHex : MethodName := ⟨RX4, "isHex", "(IIZ)Z"⟩
abbrev cX4_hex : ByteArray := prog_6_method_13_code
def yX4_hex : MethodName := ⟨RX4, "hex", "(I)I"⟩
abbrev cX4_isDecimal : ByteArray := prog_6_method_15_code
def yX4_isDecimal : MethodName := ⟨RX4, "isDecimal", "(IIZ)Z"⟩
abbrev cX4_bits : ByteArray := prog_6_method_12_code
def yX4_bits : MethodName := ⟨RX4, "bits", "(JII)V"⟩
abbrev cX4_madeAt : ByteArray := prog_6_method_24_code
def yX4_madeAt : MethodName := ⟨RX4, "madeAt", "(I)I"⟩
abbrev vwCl : List vw_C := [(RX0, TX0, 1), (RX1, TX1, 7), (RX2, TX2, 2), (RX3, TX3, 9), (RX4, TX4, 20)]
/-- one list of words for all methods: the good words of the tables -/
def WSa : List Cond := lw_tbl.filter goodWord
theorem WSa_in {w : Cond} (i : Nat) (h : lw_tbl[i]? = some w) (hg : goodWord w = true) : w ∈ WSa := List.mem_filter.mpr ⟨List.mem_of_getElem? h, hg⟩
theorem WSa_good : ∀ w ∈ WSa, (w.onTables && w.keeps) = true ∨ ∃ ty, w = .arrayClass ty := fun _ h => good_of_word (List.mem_filter.mp h).2
theorem WSa_tbl : ∀ w ∈ WSa, w ∈ lw_tbl := fun _ h => (List.mem_filter.mp h).1
theorem gW {y : MethodName} {b : ByteArray} {n : Nat} {r : Option FieldType} (h5 : Cond.code y b n r ∈ WSa) : GoodIn WSa (Cond.code y b n r :: WSa) := fun w hw => by
  rcases List.mem_cons.mp hw with h | h
  · subst h; exact ⟨h5, WSa_good _ h5⟩
  · exact ⟨h, WSa_good _ h⟩
theorem gV {own C : String} {idx : Nat} {y : MethodName} {b : ByteArray} {n : Nat} {r : Option FieldType} (h1 : Cond.methodLink own idx y ∈ WSa) (h2 : Cond.instanceMethod y ∈ WSa) (h3 : Cond.selects C y y ∈ WSa) (h4 : Cond.initialized C ∈ WSa) (h5 : Cond.code y b n r ∈ WSa) : GoodIn WSa (wsV own idx C y (Cond.code y b n r :: WSa)) := fun w hw => by
  unfold wsV at hw
  rcases List.mem_append.mp hw with h | h
  · simp only [List.mem_cons, List.not_mem_nil, or_false] at h
    rcases h with rfl | rfl | rfl | rfl
    · exact ⟨h1, WSa_good _ h1⟩
    · exact ⟨h2, WSa_good _ h2⟩
    · exact ⟨h3, WSa_good _ h3⟩
    · exact ⟨h4, WSa_good _ h4⟩
  · exact gW h5 w h
theorem gS {own : String} {idx : Nat} {y : MethodName} {b : ByteArray} {n : Nat} {r : Option FieldType} (h1 : Cond.methodLink own idx y ∈ WSa) (h2 : Cond.static y ∈ WSa) (h4 : Cond.initialized own ∈ WSa) (h5 : Cond.code y b n r ∈ WSa) : GoodIn WSa (wsS own idx y (Cond.code y b n r :: WSa)) := fun w hw => by
  unfold wsS at hw
  rcases List.mem_append.mp hw with h | h
  · simp only [List.mem_cons, List.not_mem_nil, or_false] at h
    rcases h with rfl | rfl | rfl
    · exact ⟨h1, WSa_good _ h1⟩
    · exact ⟨h2, WSa_good _ h2⟩
    · exact ⟨h4, WSa_good _ h4⟩
  · exact gW h5 w h
abbrev wsX3_init : List Cond := Cond.code yX3_init cX3_init 2 none :: WSa
abbrev wsX2_init : List Cond := Cond.code yX2_init cX2_init 2 none :: WSa
abbrev wsX1_init : List Cond := Cond.code yX1_init cX1_init 1 none :: WSa
abbrev wsX0_init : List Cond := Cond.code yX0_init cX0_init 1 none :: WSa
abbrev wsX3_feed : List Cond := Cond.code yX3_feed cX3_feed 6 (some .boolean) :: WSa
abbrev wsX2_hasRoomFor : List Cond := Cond.code yX2_hasRoomFor cX2_hasRoomFor 2 (some .boolean) :: WSa
abbrev wsX2_addFourBytes : List Cond := Cond.code yX2_addFourBytes cX2_addFourBytes 2 none :: WSa
abbrev wsX2_add : List Cond := Cond.code yX2_add cX2_add 2 (some .boolean) :: WSa
abbrev wsX3_end : List Cond := Cond.code yX3_end cX3_end 2 (some .boolean) :: WSa
abbrev wsX2_shorten : List Cond := Cond.code yX2_shorten cX2_shorten 2 (some .boolean) :: WSa
abbrev wsX3_format : List Cond := Cond.code yX3_format cX3_format 1 (some .int) :: WSa
abbrev wsX2_empty : List Cond := Cond.code yX2_empty cX2_empty 1 none :: WSa
abbrev wsX2_addText : List Cond := Cond.code yX2_addText cX2_addText 4 none :: WSa
abbrev wsX2_at : List Cond := Cond.code yX2_at cX2_at 2 (some .int) :: WSa
abbrev wsX3_argument : List Cond := Cond.code yX3_argument cX3_argument 2 (some .int) :: WSa
abbrev wsX3_hasRoomForArgument : List Cond := Cond.code yX3_hasRoomForArgument cX3_hasRoomForArgument 1 (some .boolean) :: WSa
abbrev wsX3_nextArgument : List Cond := Cond.code yX3_nextArgument cX3_nextArgument 2 (some (.object "FormatMill$Text")) :: WSa
abbrev wsX3_number : List Cond := Cond.code yX3_number cX3_number 4 (some .int) :: WSa
abbrev wsX2_addDecimalDigits : List Cond := Cond.code yX2_addDecimalDigits cX2_addDecimalDigits 7 none :: WSa
abbrev wsX3_clear : List Cond := Cond.code yX3_clear cX3_clear 1 none :: WSa
abbrev wsX3_make : List Cond := Cond.code yX3_make cX3_make 4 (some .int) :: WSa
abbrev wsX1_read : List Cond := Cond.code yX1_read cX1_read 5 (some .boolean) :: WSa
abbrev wsX1_readFlags : List Cond := Cond.code yX1_readFlags cX1_readFlags 4 (some .int) :: WSa
abbrev wsX1_setFlag : List Cond := Cond.code yX1_setFlag cX1_setFlag 2 (some .boolean) :: WSa
abbrev wsX1_readWidth : List Cond := Cond.code yX1_readWidth cX1_readWidth 4 (some .int) :: WSa
abbrev wsX3_isDecimalDigit : List Cond := Cond.code yX3_isDecimalDigit cX3_isDecimalDigit 1 (some .boolean) :: WSa
abbrev wsX1_isKind : List Cond := Cond.code yX1_isKind cX1_isKind 1 (some .boolean) :: WSa
abbrev wsX3_fillPlace : List Cond := Cond.code yX3_fillPlace cX3_fillPlace 2 (some .int) :: WSa
abbrev wsX3_addPadded : List Cond := Cond.code yX3_addPadded cX3_addPadded 7 (some .int) :: WSa
abbrev wsX2_addMany : List Cond := Cond.code yX2_addMany cX2_addMany 4 none :: WSa
abbrev wsX0_read : List Cond := Cond.code yX0_read cX0_read 4 (some .boolean) :: WSa
abbrev wsX0_readHexadecimal : List Cond := Cond.code yX0_readHexadecimal cX0_readHexadecimal 7 (some .boolean) :: WSa
abbrev wsX0_hexadecimalDigit : List Cond := Cond.code yX0_hexadecimalDigit cX0_hexadecimalDigit 1 (some .int) :: WSa
abbrev wsX0_readDecimal : List Cond := Cond.code yX0_readDecimal cX0_readDecimal 6 (some .boolean) :: WSa
abbrev wsX0_takeDigitBelowZero : List Cond := Cond.code yX0_takeDigitBelowZero cX0_takeDigitBelowZero 2 (some .boolean) :: WSa
abbrev wsX3_fillWithInteger : List Cond := Cond.code yX3_fillWithInteger cX3_fillWithInteger 3 (some .int) :: WSa
abbrev wsX1_signOf : List Cond := Cond.code yX1_signOf cX1_signOf 3 (some .int) :: WSa
abbrev wsX2_addBits : List Cond := Cond.code yX2_addBits cX2_addBits 10 none :: WSa
abbrev wsX3_madeAt : List Cond := Cond.code yX3_madeAt cX3_madeAt 2 (some .int) :: WSa
abbrev wsX4_init : List Cond := Cond.code yX4_init cX4_init 1 none :: WSa
abbrev wsX4_feed : List Cond := Cond.code yX4_feed cX4_feed 6 (some .boolean) :: WSa
abbrev wsX4_lay : List Cond := Cond.code yX4_lay cX4_lay 3 none :: WSa
abbrev wsX4_end : List Cond := Cond.code yX4_end cX4_end 2 (some .boolean) :: WSa
abbrev wsX4_format : List Cond := Cond.code yX4_format cX4_format 2 (some .int) :: WSa
abbrev wsX4_argument : List Cond := Cond.code yX4_argument cX4_argument 3 (some .int) :: WSa
abbrev wsX4_number : List Cond := Cond.code yX4_number cX4_number 5 (some .int) :: WSa
abbrev wsX4_decimal : List Cond := Cond.code yX4_decimal cX4_decimal 3 none :: WSa
abbrev wsX4_digits : List Cond := Cond.code yX4_digits cX4_digits 7 none :: WSa
abbrev wsX4_ahead : List Cond := Cond.code yX4_ahead cX4_ahead 2 none :: WSa
abbrev wsX4_clear : List Cond := Cond.code yX4_clear cX4_clear 1 none :: WSa
abbrev wsX4_make : List Cond := Cond.code yX4_make cX4_make 4 (some .int) :: WSa
abbrev wsX4_put : List Cond := Cond.code yX4_put cX4_put 2 (some .boolean) :: WSa
abbrev wsX4_readPlace : List Cond := Cond.code yX4_readPlace cX4_readPlace 1 (some .boolean) :: WSa
abbrev wsX4_flag : List Cond := Cond.code yX4_flag cX4_flag 2 (some .boolean) :: WSa
abbrev wsX4_filled : List Cond := Cond.code yX4_filled cX4_filled 3 (some .int) :: WSa
abbrev wsX4_fill : List Cond := Cond.code yX4_fill cX4_fill 10 (some .boolean) :: WSa
abbrev wsX4_puts : List Cond := Cond.code yX4_puts cX4_puts 5 (some .boolean) :: WSa
abbrev wsX4_isInteger : List Cond := Cond.code yX4_isInteger cX4_isInteger 7 (some .boolean) :: WSa
abbrev wsX4_isHex : List Cond := Cond.code yX4_isHex cX4_isHex 9 (some .boolean) :: WSa
abbrev wsX4_hex : List Cond := Cond.code yX4_hex cX4_hex 1 (some .int) :: WSa
abbrev wsX4_isDecimal : List Cond := Cond.code yX4_isDecimal cX4_isDecimal 9 (some .boolean) :: WSa
abbrev wsX4_bits : List Cond := Cond.code yX4_bits cX4_bits 8 none :: WSa
abbrev wsX4_madeAt : List Cond := Cond.code yX4_madeAt cX4_madeAt 2 (some .int) :: WSa
theorem ws_0 : Cond.selects RX3 yX3_hasRoomForArgument yX3_hasRoomForArgument ∈ WSa := WSa_in 0 rfl rfl
theorem ws_1 : Cond.selects RX3 yX3_nextArgument yX3_nextArgument ∈ WSa := WSa_in 1 rfl rfl
theorem ws_2 : Cond.selects RX1 yX1_readFlags yX1_readFlags ∈ WSa := WSa_in 2 rfl rfl
theorem ws_3 : Cond.selects RX1 yX1_setFlag yX1_setFlag ∈ WSa := WSa_in 3 rfl rfl
theorem ws_4 : Cond.selects RX1 yX1_readWidth yX1_readWidth ∈ WSa := WSa_in 4 rfl rfl
theorem ws_5 : Cond.selects RX3 yX3_fillPlace yX3_fillPlace ∈ WSa := WSa_in 5 rfl rfl
theorem ws_6 : Cond.selects RX3 yX3_addPadded yX3_addPadded ∈ WSa := WSa_in 6 rfl rfl
theorem ws_7 : Cond.selects RX0 yX0_readHexadecimal yX0_readHexadecimal ∈ WSa := WSa_in 7 rfl rfl
theorem ws_8 : Cond.selects RX0 yX0_readDecimal yX0_readDecimal ∈ WSa := WSa_in 8 rfl rfl
theorem ws_9 : Cond.selects RX0 yX0_takeDigitBelowZero yX0_takeDigitBelowZero ∈ WSa := WSa_in 9 rfl rfl
theorem ws_10 : Cond.selects RX3 yX3_fillWithInteger yX3_fillWithInteger ∈ WSa := WSa_in 10 rfl rfl
theorem ws_11 : Cond.selects RX4 yX4_lay yX4_lay ∈ WSa := WSa_in 11 rfl rfl
theorem ws_12 : Cond.selects RX4 yX4_decimal yX4_decimal ∈ WSa := WSa_in 12 rfl rfl
theorem ws_13 : Cond.selects RX4 yX4_digits yX4_digits ∈ WSa := WSa_in 13 rfl rfl
theorem ws_14 : Cond.selects RX4 yX4_ahead yX4_ahead ∈ WSa := WSa_in 14 rfl rfl
theorem ws_15 : Cond.selects RX4 yX4_put yX4_put ∈ WSa := WSa_in 15 rfl rfl
theorem ws_16 : Cond.selects RX4 yX4_readPlace yX4_readPlace ∈ WSa := WSa_in 16 rfl rfl
theorem ws_17 : Cond.selects RX4 yX4_flag yX4_flag ∈ WSa := WSa_in 17 rfl rfl
theorem ws_18 : Cond.selects RX4 yX4_filled yX4_filled ∈ WSa := WSa_in 18 rfl rfl
theorem ws_19 : Cond.selects RX4 yX4_fill yX4_fill ∈ WSa := WSa_in 19 rfl rfl
theorem ws_20 : Cond.selects RX4 yX4_puts yX4_puts ∈ WSa := WSa_in 20 rfl rfl
theorem ws_21 : Cond.selects RX4 yX4_isInteger yX4_isInteger ∈ WSa := WSa_in 21 rfl rfl
theorem ws_22 : Cond.selects RX4 yX4_isHex yX4_isHex ∈ WSa := WSa_in 22 rfl rfl
theorem ws_23 : Cond.selects RX4 yX4_isDecimal yX4_isDecimal ∈ WSa := WSa_in 23 rfl rfl
theorem ws_24 : Cond.selects RX4 yX4_bits yX4_bits ∈ WSa := WSa_in 24 rfl rfl
theorem wm_0 : (Jvm.Cond.initialized "FormatMillLaw") ∈ WSa := WSa_in 25 rfl rfl
theorem wm_1 : (Jvm.Cond.initialized "FormatMill") ∈ WSa := WSa_in 26 rfl rfl
theorem wm_2 : (Jvm.Cond.initialized "FormatMill$Text") ∈ WSa := WSa_in 27 rfl rfl
theorem wm_3 : (Jvm.Cond.initialized "FormatMill$Place") ∈ WSa := WSa_in 28 rfl rfl
theorem wm_4 : (Jvm.Cond.initialized "FormatMill$Numeral") ∈ WSa := WSa_in 29 rfl rfl
theorem wm_5 : (Jvm.Cond.initialized "FormatMillModel") ∈ WSa := WSa_in 30 rfl rfl
theorem wm_6 : (Jvm.Cond.initialized "java/lang/Math") ∈ WSa := WSa_in 31 rfl rfl
theorem wm_7 : (Jvm.Cond.classLink "FormatMillLaw" (7 : Nat) "FormatMill") ∈ WSa := WSa_in 32 rfl rfl
theorem wm_8 : (Jvm.Cond.instantiable "FormatMill" (9 : Nat)) ∈ WSa := WSa_in 33 rfl rfl
theorem wm_9 : (Jvm.Cond.methodLink "FormatMillLaw" (9 : Nat) yX3_init) ∈ WSa := WSa_in 34 rfl rfl
theorem wm_10 : (Jvm.Cond.instanceMethod yX3_init) ∈ WSa := WSa_in 35 rfl rfl
theorem wm_11 : (Jvm.Cond.code yX3_init prog_1_method_1_code (2 : Nat) (Option.none : Option Jvm.ClassFile.FieldType)) ∈ WSa := WSa_in 36 rfl rfl
theorem wm_12 : (Jvm.Cond.methodLink "FormatMill" (1 : Nat) objectInit) ∈ WSa := WSa_in 37 rfl rfl
theorem wm_13 : (Jvm.Cond.instanceMethod objectInit) ∈ WSa := WSa_in 38 rfl rfl
theorem wm_14 : (Jvm.Cond.code objectInit object_method_1_code (1 : Nat) (Option.none : Option Jvm.ClassFile.FieldType)) ∈ WSa := WSa_in 39 rfl rfl
theorem wm_15 : (Jvm.Cond.classLink "FormatMill" (7 : Nat) "FormatMill$Text") ∈ WSa := WSa_in 40 rfl rfl
theorem wm_16 : (Jvm.Cond.instantiable "FormatMill$Text" (2 : Nat)) ∈ WSa := WSa_in 41 rfl rfl
theorem wm_17 : (Jvm.Cond.methodLink "FormatMill" (11 : Nat) yX2_init) ∈ WSa := WSa_in 42 rfl rfl
theorem wm_18 : (Jvm.Cond.instanceMethod yX2_init) ∈ WSa := WSa_in 43 rfl rfl
theorem wm_19 : (Jvm.Cond.code yX2_init prog_4_method_1_code (2 : Nat) (Option.none : Option Jvm.ClassFile.FieldType)) ∈ WSa := WSa_in 44 rfl rfl
theorem wm_20 : (Jvm.Cond.methodLink "FormatMill$Text" (3 : Nat) objectInit) ∈ WSa := WSa_in 45 rfl rfl
theorem wm_21 : (Jvm.Cond.fieldLink "FormatMill$Text" (9 : Nat) "FormatMill$Text" "bytes" "[I") ∈ WSa := WSa_in 46 rfl rfl
theorem wm_22 : (Jvm.Cond.fieldLink "FormatMill$Text" (15 : Nat) "FormatMill$Text" "length" "I") ∈ WSa := WSa_in 47 rfl rfl
theorem wm_26 : (Jvm.Cond.laysFinal "FormatMill$Text" "FormatMill$Text" "bytes" "[I") ∈ WSa := WSa_in 51 rfl rfl
theorem wm_28 : (Jvm.Cond.lays "FormatMill$Text" "FormatMill$Text" "length" "I") ∈ WSa := WSa_in 53 rfl rfl
theorem wm_31 : (Jvm.Cond.arrayClass Jvm.ClassFile.FieldType.int) ∈ WSa := WSa_in 56 rfl rfl
theorem wm_33 : (Jvm.Cond.classLink "FormatMill" (35 : Nat) "FormatMill$Place") ∈ WSa := WSa_in 58 rfl rfl
theorem wm_34 : (Jvm.Cond.instantiable "FormatMill$Place" (7 : Nat)) ∈ WSa := WSa_in 59 rfl rfl
theorem wm_35 : (Jvm.Cond.methodLink "FormatMill" (37 : Nat) yX1_init) ∈ WSa := WSa_in 60 rfl rfl
theorem wm_36 : (Jvm.Cond.instanceMethod yX1_init) ∈ WSa := WSa_in 61 rfl rfl
theorem wm_37 : (Jvm.Cond.code yX1_init prog_3_method_1_code (1 : Nat) (Option.none : Option Jvm.ClassFile.FieldType)) ∈ WSa := WSa_in 62 rfl rfl
theorem wm_38 : (Jvm.Cond.methodLink "FormatMill$Place" (3 : Nat) objectInit) ∈ WSa := WSa_in 63 rfl rfl
theorem wm_39 : (Jvm.Cond.fieldLink "FormatMill$Place" (42 : Nat) "FormatMill$Place" "left" "Z") ∈ WSa := WSa_in 64 rfl rfl
theorem wm_41 : (Jvm.Cond.fieldLink "FormatMill$Place" (45 : Nat) "FormatMill$Place" "zeros" "Z") ∈ WSa := WSa_in 66 rfl rfl
theorem wm_43 : (Jvm.Cond.fieldLink "FormatMill$Place" (35 : Nat) "FormatMill$Place" "plus" "Z") ∈ WSa := WSa_in 68 rfl rfl
theorem wm_44 : (Jvm.Cond.fieldLink "FormatMill$Place" (39 : Nat) "FormatMill$Place" "blank" "Z") ∈ WSa := WSa_in 69 rfl rfl
theorem wm_45 : (Jvm.Cond.fieldLink "FormatMill$Place" (54 : Nat) "FormatMill$Place" "width" "I") ∈ WSa := WSa_in 70 rfl rfl
theorem wm_47 : (Jvm.Cond.fieldLink "FormatMill$Place" (9 : Nat) "FormatMill$Place" "kind" "I") ∈ WSa := WSa_in 72 rfl rfl
theorem wm_49 : (Jvm.Cond.fieldLink "FormatMill$Place" (28 : Nat) "FormatMill$Place" "behind" "I") ∈ WSa := WSa_in 74 rfl rfl
theorem wm_51 : (Jvm.Cond.lays "FormatMill$Place" "FormatMill$Place" "left" "Z") ∈ WSa := WSa_in 76 rfl rfl
theorem wm_53 : (Jvm.Cond.lays "FormatMill$Place" "FormatMill$Place" "zeros" "Z") ∈ WSa := WSa_in 78 rfl rfl
theorem wm_55 : (Jvm.Cond.lays "FormatMill$Place" "FormatMill$Place" "plus" "Z") ∈ WSa := WSa_in 80 rfl rfl
theorem wm_57 : (Jvm.Cond.lays "FormatMill$Place" "FormatMill$Place" "blank" "Z") ∈ WSa := WSa_in 82 rfl rfl
theorem wm_59 : (Jvm.Cond.lays "FormatMill$Place" "FormatMill$Place" "width" "I") ∈ WSa := WSa_in 84 rfl rfl
theorem wm_61 : (Jvm.Cond.lays "FormatMill$Place" "FormatMill$Place" "kind" "I") ∈ WSa := WSa_in 86 rfl rfl
theorem wm_63 : (Jvm.Cond.lays "FormatMill$Place" "FormatMill$Place" "behind" "I") ∈ WSa := WSa_in 88 rfl rfl
theorem wm_66 : (Jvm.Cond.classLink "FormatMill" (42 : Nat) "FormatMill$Numeral") ∈ WSa := WSa_in 91 rfl rfl
theorem wm_67 : (Jvm.Cond.instantiable "FormatMill$Numeral" (1 : Nat)) ∈ WSa := WSa_in 92 rfl rfl
theorem wm_68 : (Jvm.Cond.methodLink "FormatMill" (44 : Nat) yX0_init) ∈ WSa := WSa_in 93 rfl rfl
theorem wm_69 : (Jvm.Cond.instanceMethod yX0_init) ∈ WSa := WSa_in 94 rfl rfl
theorem wm_70 : (Jvm.Cond.code yX0_init prog_2_method_1_code (1 : Nat) (Option.none : Option Jvm.ClassFile.FieldType)) ∈ WSa := WSa_in 95 rfl rfl
theorem wm_71 : (Jvm.Cond.methodLink "FormatMill$Numeral" (3 : Nat) objectInit) ∈ WSa := WSa_in 96 rfl rfl
theorem wm_72 : (Jvm.Cond.fieldLink "FormatMill$Numeral" (9 : Nat) "FormatMill$Numeral" "value" "J") ∈ WSa := WSa_in 97 rfl rfl
theorem wm_74 : (Jvm.Cond.lays "FormatMill$Numeral" "FormatMill$Numeral" "value" "J") ∈ WSa := WSa_in 99 rfl rfl
theorem wm_77 : (Jvm.Cond.fieldLink "FormatMill" (14 : Nat) "FormatMill" "tape" "LFormatMill$Text;") ∈ WSa := WSa_in 102 rfl rfl
theorem wm_78 : (Jvm.Cond.fieldLink "FormatMill" (18 : Nat) "FormatMill" "pattern" "LFormatMill$Text;") ∈ WSa := WSa_in 103 rfl rfl
theorem wm_79 : (Jvm.Cond.fieldLink "FormatMill" (21 : Nat) "FormatMill" "made" "LFormatMill$Text;") ∈ WSa := WSa_in 104 rfl rfl
theorem wm_80 : (Jvm.Cond.fieldLink "FormatMill" (24 : Nat) "FormatMill" "arguments" "[LFormatMill$Text;") ∈ WSa := WSa_in 105 rfl rfl
theorem wm_81 : (Jvm.Cond.fieldLink "FormatMill" (28 : Nat) "FormatMill" "argumentCount" "I") ∈ WSa := WSa_in 106 rfl rfl
theorem wm_82 : (Jvm.Cond.fieldLink "FormatMill" (32 : Nat) "FormatMill" "taken" "I") ∈ WSa := WSa_in 107 rfl rfl
theorem wm_83 : (Jvm.Cond.fieldLink "FormatMill" (38 : Nat) "FormatMill" "place" "LFormatMill$Place;") ∈ WSa := WSa_in 108 rfl rfl
theorem wm_84 : (Jvm.Cond.fieldLink "FormatMill" (45 : Nat) "FormatMill" "numeral" "LFormatMill$Numeral;") ∈ WSa := WSa_in 109 rfl rfl
theorem wm_85 : (Jvm.Cond.fieldLink "FormatMill" (49 : Nat) "FormatMill" "digits" "LFormatMill$Text;") ∈ WSa := WSa_in 110 rfl rfl
theorem wm_86 : (Jvm.Cond.laysFinal "FormatMill" "FormatMill" "tape" "LFormatMill$Text;") ∈ WSa := WSa_in 111 rfl rfl
theorem wm_88 : (Jvm.Cond.laysFinal "FormatMill" "FormatMill" "pattern" "LFormatMill$Text;") ∈ WSa := WSa_in 113 rfl rfl
theorem wm_90 : (Jvm.Cond.laysFinal "FormatMill" "FormatMill" "made" "LFormatMill$Text;") ∈ WSa := WSa_in 115 rfl rfl
theorem wm_92 : (Jvm.Cond.laysFinal "FormatMill" "FormatMill" "arguments" "[LFormatMill$Text;") ∈ WSa := WSa_in 117 rfl rfl
theorem wm_94 : (Jvm.Cond.lays "FormatMill" "FormatMill" "argumentCount" "I") ∈ WSa := WSa_in 119 rfl rfl
theorem wm_96 : (Jvm.Cond.lays "FormatMill" "FormatMill" "taken" "I") ∈ WSa := WSa_in 121 rfl rfl
theorem wm_98 : (Jvm.Cond.laysFinal "FormatMill" "FormatMill" "place" "LFormatMill$Place;") ∈ WSa := WSa_in 123 rfl rfl
theorem wm_100 : (Jvm.Cond.laysFinal "FormatMill" "FormatMill" "numeral" "LFormatMill$Numeral;") ∈ WSa := WSa_in 125 rfl rfl
theorem wm_102 : (Jvm.Cond.laysFinal "FormatMill" "FormatMill" "digits" "LFormatMill$Text;") ∈ WSa := WSa_in 127 rfl rfl
theorem wm_105 : (Jvm.Cond.methodLink "FormatMillLaw" (13 : Nat) yX3_feed) ∈ WSa := WSa_in 130 rfl rfl
theorem wm_106 : (Jvm.Cond.instanceMethod yX3_feed) ∈ WSa := WSa_in 131 rfl rfl
theorem wm_107 : (Jvm.Cond.selects "FormatMill" yX3_feed yX3_feed) ∈ WSa := WSa_in 132 rfl rfl
theorem wm_108 : (Jvm.Cond.code yX3_feed prog_1_method_2_code (6 : Nat) (Option.some Jvm.ClassFile.FieldType.boolean)) ∈ WSa := WSa_in 133 rfl rfl
theorem wm_109 : (Jvm.Cond.methodLink "FormatMill" (52 : Nat) yX2_hasRoomFor) ∈ WSa := WSa_in 134 rfl rfl
theorem wm_110 : (Jvm.Cond.instanceMethod yX2_hasRoomFor) ∈ WSa := WSa_in 135 rfl rfl
theorem wm_111 : (Jvm.Cond.selects "FormatMill$Text" yX2_hasRoomFor yX2_hasRoomFor) ∈ WSa := WSa_in 136 rfl rfl
theorem wm_112 : (Jvm.Cond.code yX2_hasRoomFor prog_4_method_5_code (2 : Nat) (Option.some Jvm.ClassFile.FieldType.boolean)) ∈ WSa := WSa_in 137 rfl rfl
theorem wm_113 : (Jvm.Cond.methodLink "FormatMill" (56 : Nat) yX2_addFourBytes) ∈ WSa := WSa_in 138 rfl rfl
theorem wm_114 : (Jvm.Cond.instanceMethod yX2_addFourBytes) ∈ WSa := WSa_in 139 rfl rfl
theorem wm_115 : (Jvm.Cond.selects "FormatMill$Text" yX2_addFourBytes yX2_addFourBytes) ∈ WSa := WSa_in 140 rfl rfl
theorem wm_116 : (Jvm.Cond.code yX2_addFourBytes prog_4_method_7_code (2 : Nat) (Option.none : Option Jvm.ClassFile.FieldType)) ∈ WSa := WSa_in 141 rfl rfl
theorem wm_117 : (Jvm.Cond.methodLink "FormatMill$Text" (19 : Nat) yX2_add) ∈ WSa := WSa_in 142 rfl rfl
theorem wm_118 : (Jvm.Cond.instanceMethod yX2_add) ∈ WSa := WSa_in 143 rfl rfl
theorem wm_119 : (Jvm.Cond.selects "FormatMill$Text" yX2_add yX2_add) ∈ WSa := WSa_in 144 rfl rfl
theorem wm_120 : (Jvm.Cond.code yX2_add prog_4_method_6_code (2 : Nat) (Option.some Jvm.ClassFile.FieldType.boolean)) ∈ WSa := WSa_in 145 rfl rfl
theorem wm_121 : (Jvm.Cond.methodLink "FormatMillLaw" (18 : Nat) yX3_end) ∈ WSa := WSa_in 146 rfl rfl
theorem wm_122 : (Jvm.Cond.instanceMethod yX3_end) ∈ WSa := WSa_in 147 rfl rfl
theorem wm_123 : (Jvm.Cond.selects "FormatMill" yX3_end yX3_end) ∈ WSa := WSa_in 148 rfl rfl
theorem wm_124 : (Jvm.Cond.code yX3_end prog_1_method_3_code (2 : Nat) (Option.some Jvm.ClassFile.FieldType.boolean)) ∈ WSa := WSa_in 149 rfl rfl
theorem wm_125 : (Jvm.Cond.methodLink "FormatMill" (59 : Nat) yX2_shorten) ∈ WSa := WSa_in 150 rfl rfl
theorem wm_126 : (Jvm.Cond.instanceMethod yX2_shorten) ∈ WSa := WSa_in 151 rfl rfl
theorem wm_127 : (Jvm.Cond.selects "FormatMill$Text" yX2_shorten yX2_shorten) ∈ WSa := WSa_in 152 rfl rfl
theorem wm_128 : (Jvm.Cond.code yX2_shorten prog_4_method_3_code (2 : Nat) (Option.some Jvm.ClassFile.FieldType.boolean)) ∈ WSa := WSa_in 153 rfl rfl
theorem wm_129 : (Jvm.Cond.methodLink "FormatMillLaw" (23 : Nat) yX3_format) ∈ WSa := WSa_in 154 rfl rfl
theorem wm_130 : (Jvm.Cond.instanceMethod yX3_format) ∈ WSa := WSa_in 155 rfl rfl
theorem wm_131 : (Jvm.Cond.selects "FormatMill" yX3_format yX3_format) ∈ WSa := WSa_in 156 rfl rfl
theorem wm_132 : (Jvm.Cond.code yX3_format prog_1_method_4_code (1 : Nat) (Option.some Jvm.ClassFile.FieldType.int)) ∈ WSa := WSa_in 157 rfl rfl
theorem wm_133 : (Jvm.Cond.methodLink "FormatMill" (62 : Nat) yX2_empty) ∈ WSa := WSa_in 158 rfl rfl
theorem wm_134 : (Jvm.Cond.instanceMethod yX2_empty) ∈ WSa := WSa_in 159 rfl rfl
theorem wm_135 : (Jvm.Cond.selects "FormatMill$Text" yX2_empty yX2_empty) ∈ WSa := WSa_in 160 rfl rfl
theorem wm_136 : (Jvm.Cond.code yX2_empty prog_4_method_2_code (1 : Nat) (Option.none : Option Jvm.ClassFile.FieldType)) ∈ WSa := WSa_in 161 rfl rfl
theorem wm_137 : (Jvm.Cond.methodLink "FormatMill" (65 : Nat) yX2_addText) ∈ WSa := WSa_in 162 rfl rfl
theorem wm_138 : (Jvm.Cond.instanceMethod yX2_addText) ∈ WSa := WSa_in 163 rfl rfl
theorem wm_139 : (Jvm.Cond.selects "FormatMill$Text" yX2_addText yX2_addText) ∈ WSa := WSa_in 164 rfl rfl
theorem wm_140 : (Jvm.Cond.code yX2_addText prog_4_method_9_code (4 : Nat) (Option.none : Option Jvm.ClassFile.FieldType)) ∈ WSa := WSa_in 165 rfl rfl
theorem wm_141 : (Jvm.Cond.methodLink "FormatMill$Text" (23 : Nat) yX2_at) ∈ WSa := WSa_in 166 rfl rfl
theorem wm_142 : (Jvm.Cond.instanceMethod yX2_at) ∈ WSa := WSa_in 167 rfl rfl
theorem wm_143 : (Jvm.Cond.selects "FormatMill$Text" yX2_at yX2_at) ∈ WSa := WSa_in 168 rfl rfl
theorem wm_144 : (Jvm.Cond.code yX2_at prog_4_method_4_code (2 : Nat) (Option.some Jvm.ClassFile.FieldType.int)) ∈ WSa := WSa_in 169 rfl rfl
theorem wm_145 : (Jvm.Cond.methodLink "FormatMillLaw" (28 : Nat) yX3_argument) ∈ WSa := WSa_in 170 rfl rfl
theorem wm_146 : (Jvm.Cond.instanceMethod yX3_argument) ∈ WSa := WSa_in 171 rfl rfl
theorem wm_147 : (Jvm.Cond.selects "FormatMill" yX3_argument yX3_argument) ∈ WSa := WSa_in 172 rfl rfl
theorem wm_148 : (Jvm.Cond.code yX3_argument prog_1_method_5_code (2 : Nat) (Option.some Jvm.ClassFile.FieldType.int)) ∈ WSa := WSa_in 173 rfl rfl
theorem wm_149 : (Jvm.Cond.methodLink "FormatMill" (72 : Nat) yX3_hasRoomForArgument) ∈ WSa := WSa_in 174 rfl rfl
theorem wm_151 : (Jvm.Cond.instanceMethod yX3_hasRoomForArgument) ∈ WSa := WSa_in 176 rfl rfl
theorem wm_152 : (Jvm.Cond.code yX3_hasRoomForArgument prog_1_method_10_code (1 : Nat) (Option.some Jvm.ClassFile.FieldType.boolean)) ∈ WSa := WSa_in 177 rfl rfl
theorem wm_153 : (Jvm.Cond.methodLink "FormatMill" (76 : Nat) yX3_nextArgument) ∈ WSa := WSa_in 178 rfl rfl
theorem wm_155 : (Jvm.Cond.instanceMethod yX3_nextArgument) ∈ WSa := WSa_in 180 rfl rfl
theorem wm_156 : (Jvm.Cond.code yX3_nextArgument prog_1_method_11_code (2 : Nat) (Option.some (Jvm.ClassFile.FieldType.object "FormatMill$Text"))) ∈ WSa := WSa_in 181 rfl rfl
theorem wm_157 : (Jvm.Cond.methodLink "FormatMillLaw" (34 : Nat) yX3_number) ∈ WSa := WSa_in 182 rfl rfl
theorem wm_158 : (Jvm.Cond.instanceMethod yX3_number) ∈ WSa := WSa_in 183 rfl rfl
theorem wm_159 : (Jvm.Cond.selects "FormatMill" yX3_number yX3_number) ∈ WSa := WSa_in 184 rfl rfl
theorem wm_160 : (Jvm.Cond.code yX3_number prog_1_method_6_code (4 : Nat) (Option.some Jvm.ClassFile.FieldType.int)) ∈ WSa := WSa_in 185 rfl rfl
theorem wm_161 : (Jvm.Cond.methodLink "FormatMill" (80 : Nat) yX2_add) ∈ WSa := WSa_in 186 rfl rfl
theorem wm_162 : (Jvm.Cond.methodLink "FormatMill" (83 : Nat) yX2_addDecimalDigits) ∈ WSa := WSa_in 187 rfl rfl
theorem wm_163 : (Jvm.Cond.instanceMethod yX2_addDecimalDigits) ∈ WSa := WSa_in 188 rfl rfl
theorem wm_164 : (Jvm.Cond.selects "FormatMill$Text" yX2_addDecimalDigits yX2_addDecimalDigits) ∈ WSa := WSa_in 189 rfl rfl
theorem wm_165 : (Jvm.Cond.code yX2_addDecimalDigits prog_4_method_10_code (7 : Nat) (Option.none : Option Jvm.ClassFile.FieldType)) ∈ WSa := WSa_in 190 rfl rfl
theorem wm_166 : (Jvm.Cond.constantLong "FormatMill$Text" (27 : Nat) (1000000000000000000 : Int64)) ∈ WSa := WSa_in 191 rfl rfl
theorem wm_167 : (Jvm.Cond.constantLong "FormatMill$Text" (29 : Nat) (10 : Int64)) ∈ WSa := WSa_in 192 rfl rfl
theorem wm_168 : (Jvm.Cond.methodLink "FormatMill$Text" (31 : Nat) Lib.Math.abs.name) ∈ WSa := WSa_in 193 rfl rfl
theorem wm_169 : (Jvm.Cond.static Lib.Math.abs.name) ∈ WSa := WSa_in 194 rfl rfl
theorem wm_170 : (Jvm.Cond.code Lib.Math.abs.name prog_7_method_59_code (1 : Nat) (Option.some Jvm.ClassFile.FieldType.int)) ∈ WSa := WSa_in 195 rfl rfl
theorem wm_171 : (Jvm.Cond.methodLink "FormatMillLaw" (39 : Nat) yX3_clear) ∈ WSa := WSa_in 196 rfl rfl
theorem wm_172 : (Jvm.Cond.instanceMethod yX3_clear) ∈ WSa := WSa_in 197 rfl rfl
theorem wm_173 : (Jvm.Cond.selects "FormatMill" yX3_clear yX3_clear) ∈ WSa := WSa_in 198 rfl rfl
theorem wm_174 : (Jvm.Cond.code yX3_clear prog_1_method_7_code (1 : Nat) (Option.none : Option Jvm.ClassFile.FieldType)) ∈ WSa := WSa_in 199 rfl rfl
theorem wm_175 : (Jvm.Cond.methodLink "FormatMillLaw" (43 : Nat) yX3_make) ∈ WSa := WSa_in 200 rfl rfl
theorem wm_176 : (Jvm.Cond.instanceMethod yX3_make) ∈ WSa := WSa_in 201 rfl rfl
theorem wm_177 : (Jvm.Cond.selects "FormatMill" yX3_make yX3_make) ∈ WSa := WSa_in 202 rfl rfl
theorem wm_178 : (Jvm.Cond.code yX3_make prog_1_method_8_code (4 : Nat) (Option.some Jvm.ClassFile.FieldType.int)) ∈ WSa := WSa_in 203 rfl rfl
theorem wm_179 : (Jvm.Cond.methodLink "FormatMill" (87 : Nat) yX2_at) ∈ WSa := WSa_in 204 rfl rfl
theorem wm_180 : (Jvm.Cond.methodLink "FormatMill" (91 : Nat) yX1_read) ∈ WSa := WSa_in 205 rfl rfl
theorem wm_181 : (Jvm.Cond.instanceMethod yX1_read) ∈ WSa := WSa_in 206 rfl rfl
theorem wm_182 : (Jvm.Cond.selects "FormatMill$Place" yX1_read yX1_read) ∈ WSa := WSa_in 207 rfl rfl
theorem wm_183 : (Jvm.Cond.code yX1_read prog_3_method_2_code (5 : Nat) (Option.some Jvm.ClassFile.FieldType.boolean)) ∈ WSa := WSa_in 208 rfl rfl
theorem wm_184 : (Jvm.Cond.methodLink "FormatMill$Place" (15 : Nat) yX1_readFlags) ∈ WSa := WSa_in 209 rfl rfl
theorem wm_186 : (Jvm.Cond.instanceMethod yX1_readFlags) ∈ WSa := WSa_in 211 rfl rfl
theorem wm_187 : (Jvm.Cond.code yX1_readFlags prog_3_method_4_code (4 : Nat) (Option.some Jvm.ClassFile.FieldType.int)) ∈ WSa := WSa_in 212 rfl rfl
theorem wm_188 : (Jvm.Cond.methodLink "FormatMill$Place" (22 : Nat) yX2_at) ∈ WSa := WSa_in 213 rfl rfl
theorem wm_189 : (Jvm.Cond.methodLink "FormatMill$Place" (51 : Nat) yX1_setFlag) ∈ WSa := WSa_in 214 rfl rfl
theorem wm_191 : (Jvm.Cond.instanceMethod yX1_setFlag) ∈ WSa := WSa_in 216 rfl rfl
theorem wm_192 : (Jvm.Cond.code yX1_setFlag prog_3_method_5_code (2 : Nat) (Option.some Jvm.ClassFile.FieldType.boolean)) ∈ WSa := WSa_in 217 rfl rfl
theorem wm_193 : (Jvm.Cond.methodLink "FormatMill$Place" (19 : Nat) yX1_readWidth) ∈ WSa := WSa_in 218 rfl rfl
theorem wm_195 : (Jvm.Cond.instanceMethod yX1_readWidth) ∈ WSa := WSa_in 220 rfl rfl
theorem wm_196 : (Jvm.Cond.code yX1_readWidth prog_3_method_6_code (4 : Nat) (Option.some Jvm.ClassFile.FieldType.int)) ∈ WSa := WSa_in 221 rfl rfl
theorem wm_198 : (Jvm.Cond.static yX3_isDecimalDigit) ∈ WSa := WSa_in 223 rfl rfl
theorem wm_199 : (Jvm.Cond.code yX3_isDecimalDigit prog_1_method_15_code (1 : Nat) (Option.some Jvm.ClassFile.FieldType.boolean)) ∈ WSa := WSa_in 224 rfl rfl
theorem wm_200 : (Jvm.Cond.constant "FormatMill$Place" (60 : Nat) (100000 : Int32)) ∈ WSa := WSa_in 225 rfl rfl
theorem wm_201 : (Jvm.Cond.methodLink "FormatMill$Place" (61 : Nat) Lib.Math.min.name) ∈ WSa := WSa_in 226 rfl rfl
theorem wm_202 : (Jvm.Cond.static Lib.Math.min.name) ∈ WSa := WSa_in 227 rfl rfl
theorem wm_203 : (Jvm.Cond.code Lib.Math.min.name prog_7_method_69_code (2 : Nat) (Option.some Jvm.ClassFile.FieldType.int)) ∈ WSa := WSa_in 228 rfl rfl
theorem wm_204 : (Jvm.Cond.methodLink "FormatMill$Place" (31 : Nat) yX1_isKind) ∈ WSa := WSa_in 229 rfl rfl
theorem wm_205 : (Jvm.Cond.static yX1_isKind) ∈ WSa := WSa_in 230 rfl rfl
theorem wm_206 : (Jvm.Cond.code yX1_isKind prog_3_method_7_code (1 : Nat) (Option.some Jvm.ClassFile.FieldType.boolean)) ∈ WSa := WSa_in 231 rfl rfl
theorem wm_207 : (Jvm.Cond.methodLink "FormatMill" (95 : Nat) yX3_fillPlace) ∈ WSa := WSa_in 232 rfl rfl
theorem wm_209 : (Jvm.Cond.instanceMethod yX3_fillPlace) ∈ WSa := WSa_in 234 rfl rfl
theorem wm_210 : (Jvm.Cond.code yX3_fillPlace prog_1_method_12_code (2 : Nat) (Option.some Jvm.ClassFile.FieldType.int)) ∈ WSa := WSa_in 235 rfl rfl
theorem wm_211 : (Jvm.Cond.methodLink "FormatMill" (105 : Nat) yX3_addPadded) ∈ WSa := WSa_in 236 rfl rfl
theorem wm_213 : (Jvm.Cond.instanceMethod yX3_addPadded) ∈ WSa := WSa_in 238 rfl rfl
theorem wm_214 : (Jvm.Cond.code yX3_addPadded prog_1_method_14_code (7 : Nat) (Option.some Jvm.ClassFile.FieldType.int)) ∈ WSa := WSa_in 239 rfl rfl
theorem wm_215 : (Jvm.Cond.methodLink "FormatMill" (134 : Nat) Lib.Math.max.name) ∈ WSa := WSa_in 240 rfl rfl
theorem wm_216 : (Jvm.Cond.static Lib.Math.max.name) ∈ WSa := WSa_in 241 rfl rfl
theorem wm_217 : (Jvm.Cond.code Lib.Math.max.name prog_7_method_65_code (2 : Nat) (Option.some Jvm.ClassFile.FieldType.int)) ∈ WSa := WSa_in 242 rfl rfl
theorem wm_218 : (Jvm.Cond.methodLink "FormatMill" (143 : Nat) yX2_addMany) ∈ WSa := WSa_in 243 rfl rfl
theorem wm_219 : (Jvm.Cond.instanceMethod yX2_addMany) ∈ WSa := WSa_in 244 rfl rfl
theorem wm_220 : (Jvm.Cond.selects "FormatMill$Text" yX2_addMany yX2_addMany) ∈ WSa := WSa_in 245 rfl rfl
theorem wm_221 : (Jvm.Cond.code yX2_addMany prog_4_method_8_code (4 : Nat) (Option.none : Option Jvm.ClassFile.FieldType)) ∈ WSa := WSa_in 246 rfl rfl
theorem wm_222 : (Jvm.Cond.methodLink "FormatMill" (109 : Nat) yX0_read) ∈ WSa := WSa_in 247 rfl rfl
theorem wm_223 : (Jvm.Cond.instanceMethod yX0_read) ∈ WSa := WSa_in 248 rfl rfl
theorem wm_224 : (Jvm.Cond.selects "FormatMill$Numeral" yX0_read yX0_read) ∈ WSa := WSa_in 249 rfl rfl
theorem wm_225 : (Jvm.Cond.code yX0_read prog_2_method_2_code (4 : Nat) (Option.some Jvm.ClassFile.FieldType.boolean)) ∈ WSa := WSa_in 250 rfl rfl
theorem wm_226 : (Jvm.Cond.methodLink "FormatMill$Numeral" (15 : Nat) yX2_at) ∈ WSa := WSa_in 251 rfl rfl
theorem wm_227 : (Jvm.Cond.methodLink "FormatMill$Numeral" (21 : Nat) yX0_readHexadecimal) ∈ WSa := WSa_in 252 rfl rfl
theorem wm_229 : (Jvm.Cond.instanceMethod yX0_readHexadecimal) ∈ WSa := WSa_in 254 rfl rfl
theorem wm_230 : (Jvm.Cond.code yX0_readHexadecimal prog_2_method_3_code (7 : Nat) (Option.some Jvm.ClassFile.FieldType.boolean)) ∈ WSa := WSa_in 255 rfl rfl
theorem wm_231 : (Jvm.Cond.methodLink "FormatMill$Numeral" (32 : Nat) yX0_hexadecimalDigit) ∈ WSa := WSa_in 256 rfl rfl
theorem wm_232 : (Jvm.Cond.static yX0_hexadecimalDigit) ∈ WSa := WSa_in 257 rfl rfl
theorem wm_233 : (Jvm.Cond.code yX0_hexadecimalDigit prog_2_method_6_code (1 : Nat) (Option.some Jvm.ClassFile.FieldType.int)) ∈ WSa := WSa_in 258 rfl rfl
theorem wm_235 : (Jvm.Cond.methodLink "FormatMill$Numeral" (25 : Nat) yX0_readDecimal) ∈ WSa := WSa_in 260 rfl rfl
theorem wm_237 : (Jvm.Cond.instanceMethod yX0_readDecimal) ∈ WSa := WSa_in 262 rfl rfl
theorem wm_238 : (Jvm.Cond.code yX0_readDecimal prog_2_method_4_code (6 : Nat) (Option.some Jvm.ClassFile.FieldType.boolean)) ∈ WSa := WSa_in 263 rfl rfl
theorem wm_239 : (Jvm.Cond.methodLink "FormatMill$Numeral" (39 : Nat) yX0_takeDigitBelowZero) ∈ WSa := WSa_in 264 rfl rfl
theorem wm_241 : (Jvm.Cond.instanceMethod yX0_takeDigitBelowZero) ∈ WSa := WSa_in 266 rfl rfl
theorem wm_242 : (Jvm.Cond.code yX0_takeDigitBelowZero prog_2_method_5_code (2 : Nat) (Option.some Jvm.ClassFile.FieldType.boolean)) ∈ WSa := WSa_in 267 rfl rfl
theorem wm_243 : (Jvm.Cond.constantLong "FormatMill$Numeral" (44 : Nat) (-922337203685477580 : Int64)) ∈ WSa := WSa_in 268 rfl rfl
theorem wm_244 : (Jvm.Cond.constantLong "FormatMill$Numeral" (46 : Nat) (10 : Int64)) ∈ WSa := WSa_in 269 rfl rfl
theorem wm_245 : (Jvm.Cond.constantLong "FormatMill$Numeral" (42 : Nat) (-9223372036854775808 : Int64)) ∈ WSa := WSa_in 270 rfl rfl
theorem wm_246 : (Jvm.Cond.methodLink "FormatMill" (116 : Nat) yX3_fillWithInteger) ∈ WSa := WSa_in 271 rfl rfl
theorem wm_248 : (Jvm.Cond.instanceMethod yX3_fillWithInteger) ∈ WSa := WSa_in 273 rfl rfl
theorem wm_249 : (Jvm.Cond.code yX3_fillWithInteger prog_1_method_13_code (3 : Nat) (Option.some Jvm.ClassFile.FieldType.int)) ∈ WSa := WSa_in 274 rfl rfl
theorem wm_250 : (Jvm.Cond.methodLink "FormatMill" (120 : Nat) yX1_signOf) ∈ WSa := WSa_in 275 rfl rfl
theorem wm_251 : (Jvm.Cond.instanceMethod yX1_signOf) ∈ WSa := WSa_in 276 rfl rfl
theorem wm_252 : (Jvm.Cond.selects "FormatMill$Place" yX1_signOf yX1_signOf) ∈ WSa := WSa_in 277 rfl rfl
theorem wm_253 : (Jvm.Cond.code yX1_signOf prog_3_method_3_code (3 : Nat) (Option.some Jvm.ClassFile.FieldType.int)) ∈ WSa := WSa_in 278 rfl rfl
theorem wm_254 : (Jvm.Cond.methodLink "FormatMill" (127 : Nat) yX2_addBits) ∈ WSa := WSa_in 279 rfl rfl
theorem wm_255 : (Jvm.Cond.instanceMethod yX2_addBits) ∈ WSa := WSa_in 280 rfl rfl
theorem wm_256 : (Jvm.Cond.selects "FormatMill$Text" yX2_addBits yX2_addBits) ∈ WSa := WSa_in 281 rfl rfl
theorem wm_257 : (Jvm.Cond.code yX2_addBits prog_4_method_11_code (10 : Nat) (Option.none : Option Jvm.ClassFile.FieldType)) ∈ WSa := WSa_in 282 rfl rfl
theorem wm_258 : (Jvm.Cond.methodLink "FormatMillLaw" (47 : Nat) yX3_madeAt) ∈ WSa := WSa_in 283 rfl rfl
theorem wm_259 : (Jvm.Cond.instanceMethod yX3_madeAt) ∈ WSa := WSa_in 284 rfl rfl
theorem wm_260 : (Jvm.Cond.selects "FormatMill" yX3_madeAt yX3_madeAt) ∈ WSa := WSa_in 285 rfl rfl
theorem wm_261 : (Jvm.Cond.code yX3_madeAt prog_1_method_9_code (2 : Nat) (Option.some Jvm.ClassFile.FieldType.int)) ∈ WSa := WSa_in 286 rfl rfl
theorem wm_262 : (Jvm.Cond.classLink "FormatMillLaw" (10 : Nat) "FormatMillModel") ∈ WSa := WSa_in 287 rfl rfl
theorem wm_263 : (Jvm.Cond.instantiable "FormatMillModel" (20 : Nat)) ∈ WSa := WSa_in 288 rfl rfl
theorem wm_264 : (Jvm.Cond.methodLink "FormatMillLaw" (12 : Nat) yX4_init) ∈ WSa := WSa_in 289 rfl rfl
theorem wm_265 : (Jvm.Cond.instanceMethod yX4_init) ∈ WSa := WSa_in 290 rfl rfl
theorem wm_266 : (Jvm.Cond.code yX4_init prog_6_method_1_code (1 : Nat) (Option.none : Option Jvm.ClassFile.FieldType)) ∈ WSa := WSa_in 291 rfl rfl
theorem wm_267 : (Jvm.Cond.methodLink "FormatMillModel" (1 : Nat) objectInit) ∈ WSa := WSa_in 292 rfl rfl
theorem wm_268 : (Jvm.Cond.fieldLink "FormatMillModel" (7 : Nat) "FormatMillModel" "tape" "[B") ∈ WSa := WSa_in 293 rfl rfl
theorem wm_269 : (Jvm.Cond.fieldLink "FormatMillModel" (13 : Nat) "FormatMillModel" "text" "[B") ∈ WSa := WSa_in 294 rfl rfl
theorem wm_270 : (Jvm.Cond.fieldLink "FormatMillModel" (16 : Nat) "FormatMillModel" "words" "[B") ∈ WSa := WSa_in 295 rfl rfl
theorem wm_271 : (Jvm.Cond.fieldLink "FormatMillModel" (19 : Nat) "FormatMillModel" "out" "[B") ∈ WSa := WSa_in 296 rfl rfl
theorem wm_272 : (Jvm.Cond.fieldLink "FormatMillModel" (29 : Nat) "FormatMillModel" "taped" "I") ∈ WSa := WSa_in 297 rfl rfl
theorem wm_273 : (Jvm.Cond.fieldLink "FormatMillModel" (37 : Nat) "FormatMillModel" "size" "I") ∈ WSa := WSa_in 298 rfl rfl
theorem wm_274 : (Jvm.Cond.fieldLink "FormatMillModel" (40 : Nat) "FormatMillModel" "many" "I") ∈ WSa := WSa_in 299 rfl rfl
theorem wm_275 : (Jvm.Cond.fieldLink "FormatMillModel" (126 : Nat) "FormatMillModel" "made" "I") ∈ WSa := WSa_in 300 rfl rfl
theorem wm_276 : (Jvm.Cond.fieldLink "FormatMillModel" (104 : Nat) "FormatMillModel" "outSize" "I") ∈ WSa := WSa_in 301 rfl rfl
theorem wm_277 : (Jvm.Cond.fieldLink "FormatMillModel" (22 : Nat) "FormatMillModel" "wordSize" "[I") ∈ WSa := WSa_in 302 rfl rfl
theorem wm_278 : (Jvm.Cond.fieldLink "FormatMillModel" (77 : Nat) "FormatMillModel" "at" "I") ∈ WSa := WSa_in 303 rfl rfl
theorem wm_279 : (Jvm.Cond.fieldLink "FormatMillModel" (93 : Nat) "FormatMillModel" "width" "I") ∈ WSa := WSa_in 304 rfl rfl
theorem wm_280 : (Jvm.Cond.fieldLink "FormatMillModel" (101 : Nat) "FormatMillModel" "kind" "I") ∈ WSa := WSa_in 305 rfl rfl
theorem wm_281 : (Jvm.Cond.fieldLink "FormatMillModel" (80 : Nat) "FormatMillModel" "left" "Z") ∈ WSa := WSa_in 306 rfl rfl
theorem wm_282 : (Jvm.Cond.fieldLink "FormatMillModel" (84 : Nat) "FormatMillModel" "zeros" "Z") ∈ WSa := WSa_in 307 rfl rfl
theorem wm_283 : (Jvm.Cond.fieldLink "FormatMillModel" (87 : Nat) "FormatMillModel" "plus" "Z") ∈ WSa := WSa_in 308 rfl rfl
theorem wm_284 : (Jvm.Cond.fieldLink "FormatMillModel" (90 : Nat) "FormatMillModel" "blank" "Z") ∈ WSa := WSa_in 309 rfl rfl
theorem wm_285 : (Jvm.Cond.fieldLink "FormatMillModel" (26 : Nat) "FormatMillModel" "piece" "[B") ∈ WSa := WSa_in 310 rfl rfl
theorem wm_286 : (Jvm.Cond.fieldLink "FormatMillModel" (47 : Nat) "FormatMillModel" "from" "I") ∈ WSa := WSa_in 311 rfl rfl
theorem wm_287 : (Jvm.Cond.fieldLink "FormatMillModel" (62 : Nat) "FormatMillModel" "value" "J") ∈ WSa := WSa_in 312 rfl rfl
theorem wm_288 : (Jvm.Cond.laysFinal "FormatMillModel" "FormatMillModel" "tape" "[B") ∈ WSa := WSa_in 313 rfl rfl
theorem wm_290 : (Jvm.Cond.laysFinal "FormatMillModel" "FormatMillModel" "text" "[B") ∈ WSa := WSa_in 315 rfl rfl
theorem wm_292 : (Jvm.Cond.laysFinal "FormatMillModel" "FormatMillModel" "words" "[B") ∈ WSa := WSa_in 317 rfl rfl
theorem wm_294 : (Jvm.Cond.laysFinal "FormatMillModel" "FormatMillModel" "out" "[B") ∈ WSa := WSa_in 319 rfl rfl
theorem wm_296 : (Jvm.Cond.lays "FormatMillModel" "FormatMillModel" "taped" "I") ∈ WSa := WSa_in 321 rfl rfl
theorem wm_298 : (Jvm.Cond.lays "FormatMillModel" "FormatMillModel" "size" "I") ∈ WSa := WSa_in 323 rfl rfl
theorem wm_300 : (Jvm.Cond.lays "FormatMillModel" "FormatMillModel" "many" "I") ∈ WSa := WSa_in 325 rfl rfl
theorem wm_302 : (Jvm.Cond.lays "FormatMillModel" "FormatMillModel" "made" "I") ∈ WSa := WSa_in 327 rfl rfl
theorem wm_304 : (Jvm.Cond.lays "FormatMillModel" "FormatMillModel" "outSize" "I") ∈ WSa := WSa_in 329 rfl rfl
theorem wm_306 : (Jvm.Cond.laysFinal "FormatMillModel" "FormatMillModel" "wordSize" "[I") ∈ WSa := WSa_in 331 rfl rfl
theorem wm_308 : (Jvm.Cond.lays "FormatMillModel" "FormatMillModel" "at" "I") ∈ WSa := WSa_in 333 rfl rfl
theorem wm_310 : (Jvm.Cond.lays "FormatMillModel" "FormatMillModel" "width" "I") ∈ WSa := WSa_in 335 rfl rfl
theorem wm_312 : (Jvm.Cond.lays "FormatMillModel" "FormatMillModel" "kind" "I") ∈ WSa := WSa_in 337 rfl rfl
theorem wm_314 : (Jvm.Cond.lays "FormatMillModel" "FormatMillModel" "left" "Z") ∈ WSa := WSa_in 339 rfl rfl
theorem wm_316 : (Jvm.Cond.lays "FormatMillModel" "FormatMillModel" "zeros" "Z") ∈ WSa := WSa_in 341 rfl rfl
theorem wm_318 : (Jvm.Cond.lays "FormatMillModel" "FormatMillModel" "plus" "Z") ∈ WSa := WSa_in 343 rfl rfl
theorem wm_320 : (Jvm.Cond.lays "FormatMillModel" "FormatMillModel" "blank" "Z") ∈ WSa := WSa_in 345 rfl rfl
theorem wm_322 : (Jvm.Cond.laysFinal "FormatMillModel" "FormatMillModel" "piece" "[B") ∈ WSa := WSa_in 347 rfl rfl
theorem wm_324 : (Jvm.Cond.lays "FormatMillModel" "FormatMillModel" "from" "I") ∈ WSa := WSa_in 349 rfl rfl
theorem wm_326 : (Jvm.Cond.lays "FormatMillModel" "FormatMillModel" "value" "J") ∈ WSa := WSa_in 351 rfl rfl
theorem wm_329 : (Jvm.Cond.arrayClass Jvm.ClassFile.FieldType.byte) ∈ WSa := WSa_in 354 rfl rfl
theorem wm_330 : (Jvm.Cond.methodLink "FormatMillLaw" (17 : Nat) yX4_feed) ∈ WSa := WSa_in 355 rfl rfl
theorem wm_331 : (Jvm.Cond.instanceMethod yX4_feed) ∈ WSa := WSa_in 356 rfl rfl
theorem wm_332 : (Jvm.Cond.selects "FormatMillModel" yX4_feed yX4_feed) ∈ WSa := WSa_in 357 rfl rfl
theorem wm_333 : (Jvm.Cond.code yX4_feed prog_6_method_3_code (6 : Nat) (Option.some Jvm.ClassFile.FieldType.boolean)) ∈ WSa := WSa_in 358 rfl rfl
theorem wm_334 : (Jvm.Cond.methodLink "FormatMillModel" (33 : Nat) yX4_lay) ∈ WSa := WSa_in 359 rfl rfl
theorem wm_336 : (Jvm.Cond.instanceMethod yX4_lay) ∈ WSa := WSa_in 361 rfl rfl
theorem wm_337 : (Jvm.Cond.code yX4_lay prog_6_method_2_code (3 : Nat) (Option.none : Option Jvm.ClassFile.FieldType)) ∈ WSa := WSa_in 362 rfl rfl
theorem wm_338 : (Jvm.Cond.methodLink "FormatMillLaw" (22 : Nat) yX4_end) ∈ WSa := WSa_in 363 rfl rfl
theorem wm_339 : (Jvm.Cond.instanceMethod yX4_end) ∈ WSa := WSa_in 364 rfl rfl
theorem wm_340 : (Jvm.Cond.selects "FormatMillModel" yX4_end yX4_end) ∈ WSa := WSa_in 365 rfl rfl
theorem wm_341 : (Jvm.Cond.code yX4_end prog_6_method_4_code (2 : Nat) (Option.some Jvm.ClassFile.FieldType.boolean)) ∈ WSa := WSa_in 366 rfl rfl
theorem wm_342 : (Jvm.Cond.methodLink "FormatMillLaw" (27 : Nat) yX4_format) ∈ WSa := WSa_in 367 rfl rfl
theorem wm_343 : (Jvm.Cond.instanceMethod yX4_format) ∈ WSa := WSa_in 368 rfl rfl
theorem wm_344 : (Jvm.Cond.selects "FormatMillModel" yX4_format yX4_format) ∈ WSa := WSa_in 369 rfl rfl
theorem wm_345 : (Jvm.Cond.code yX4_format prog_6_method_5_code (2 : Nat) (Option.some Jvm.ClassFile.FieldType.int)) ∈ WSa := WSa_in 370 rfl rfl
theorem wm_346 : (Jvm.Cond.methodLink "FormatMillLaw" (31 : Nat) yX4_argument) ∈ WSa := WSa_in 371 rfl rfl
theorem wm_347 : (Jvm.Cond.instanceMethod yX4_argument) ∈ WSa := WSa_in 372 rfl rfl
theorem wm_348 : (Jvm.Cond.selects "FormatMillModel" yX4_argument yX4_argument) ∈ WSa := WSa_in 373 rfl rfl
theorem wm_349 : (Jvm.Cond.code yX4_argument prog_6_method_6_code (3 : Nat) (Option.some Jvm.ClassFile.FieldType.int)) ∈ WSa := WSa_in 374 rfl rfl
theorem wm_350 : (Jvm.Cond.methodLink "FormatMillLaw" (38 : Nat) yX4_number) ∈ WSa := WSa_in 375 rfl rfl
theorem wm_351 : (Jvm.Cond.instanceMethod yX4_number) ∈ WSa := WSa_in 376 rfl rfl
theorem wm_352 : (Jvm.Cond.selects "FormatMillModel" yX4_number yX4_number) ∈ WSa := WSa_in 377 rfl rfl
theorem wm_353 : (Jvm.Cond.code yX4_number prog_6_method_7_code (5 : Nat) (Option.some Jvm.ClassFile.FieldType.int)) ∈ WSa := WSa_in 378 rfl rfl
theorem wm_354 : (Jvm.Cond.methodLink "FormatMillModel" (43 : Nat) yX4_decimal) ∈ WSa := WSa_in 379 rfl rfl
theorem wm_356 : (Jvm.Cond.instanceMethod yX4_decimal) ∈ WSa := WSa_in 381 rfl rfl
theorem wm_357 : (Jvm.Cond.code yX4_decimal prog_6_method_10_code (3 : Nat) (Option.none : Option Jvm.ClassFile.FieldType)) ∈ WSa := WSa_in 382 rfl rfl
theorem wm_358 : (Jvm.Cond.methodLink "FormatMillModel" (50 : Nat) yX4_digits) ∈ WSa := WSa_in 383 rfl rfl
theorem wm_360 : (Jvm.Cond.instanceMethod yX4_digits) ∈ WSa := WSa_in 385 rfl rfl
theorem wm_361 : (Jvm.Cond.code yX4_digits prog_6_method_11_code (7 : Nat) (Option.none : Option Jvm.ClassFile.FieldType)) ∈ WSa := WSa_in 386 rfl rfl
theorem wm_362 : (Jvm.Cond.constantLong "FormatMillModel" (56 : Nat) (10 : Int64)) ∈ WSa := WSa_in 387 rfl rfl
theorem wm_363 : (Jvm.Cond.methodLink "FormatMillModel" (53 : Nat) yX4_ahead) ∈ WSa := WSa_in 388 rfl rfl
theorem wm_365 : (Jvm.Cond.instanceMethod yX4_ahead) ∈ WSa := WSa_in 390 rfl rfl
theorem wm_366 : (Jvm.Cond.code yX4_ahead prog_6_method_9_code (2 : Nat) (Option.none : Option Jvm.ClassFile.FieldType)) ∈ WSa := WSa_in 391 rfl rfl
theorem wm_367 : (Jvm.Cond.methodLink "FormatMillLaw" (42 : Nat) yX4_clear) ∈ WSa := WSa_in 392 rfl rfl
theorem wm_368 : (Jvm.Cond.instanceMethod yX4_clear) ∈ WSa := WSa_in 393 rfl rfl
theorem wm_369 : (Jvm.Cond.selects "FormatMillModel" yX4_clear yX4_clear) ∈ WSa := WSa_in 394 rfl rfl
theorem wm_370 : (Jvm.Cond.code yX4_clear prog_6_method_8_code (1 : Nat) (Option.none : Option Jvm.ClassFile.FieldType)) ∈ WSa := WSa_in 395 rfl rfl
theorem wm_371 : (Jvm.Cond.methodLink "FormatMillLaw" (46 : Nat) yX4_make) ∈ WSa := WSa_in 396 rfl rfl
theorem wm_372 : (Jvm.Cond.instanceMethod yX4_make) ∈ WSa := WSa_in 397 rfl rfl
theorem wm_373 : (Jvm.Cond.selects "FormatMillModel" yX4_make yX4_make) ∈ WSa := WSa_in 398 rfl rfl
theorem wm_374 : (Jvm.Cond.code yX4_make prog_6_method_23_code (4 : Nat) (Option.some Jvm.ClassFile.FieldType.int)) ∈ WSa := WSa_in 399 rfl rfl
theorem wm_375 : (Jvm.Cond.methodLink "FormatMillModel" (107 : Nat) yX4_put) ∈ WSa := WSa_in 400 rfl rfl
theorem wm_377 : (Jvm.Cond.instanceMethod yX4_put) ∈ WSa := WSa_in 402 rfl rfl
theorem wm_378 : (Jvm.Cond.code yX4_put prog_6_method_19_code (2 : Nat) (Option.some Jvm.ClassFile.FieldType.boolean)) ∈ WSa := WSa_in 403 rfl rfl
theorem wm_379 : (Jvm.Cond.methodLink "FormatMillModel" (129 : Nat) yX4_readPlace) ∈ WSa := WSa_in 404 rfl rfl
theorem wm_381 : (Jvm.Cond.instanceMethod yX4_readPlace) ∈ WSa := WSa_in 406 rfl rfl
theorem wm_382 : (Jvm.Cond.code yX4_readPlace prog_6_method_18_code (1 : Nat) (Option.some Jvm.ClassFile.FieldType.boolean)) ∈ WSa := WSa_in 407 rfl rfl
theorem wm_383 : (Jvm.Cond.methodLink "FormatMillModel" (96 : Nat) yX4_flag) ∈ WSa := WSa_in 408 rfl rfl
theorem wm_385 : (Jvm.Cond.instanceMethod yX4_flag) ∈ WSa := WSa_in 410 rfl rfl
theorem wm_386 : (Jvm.Cond.code yX4_flag prog_6_method_17_code (2 : Nat) (Option.some Jvm.ClassFile.FieldType.boolean)) ∈ WSa := WSa_in 411 rfl rfl
theorem wm_387 : (Jvm.Cond.constant "FormatMillModel" (100 : Nat) (100000 : Int32)) ∈ WSa := WSa_in 412 rfl rfl
theorem wm_388 : (Jvm.Cond.methodLink "FormatMillModel" (132 : Nat) yX4_filled) ∈ WSa := WSa_in 413 rfl rfl
theorem wm_390 : (Jvm.Cond.instanceMethod yX4_filled) ∈ WSa := WSa_in 415 rfl rfl
theorem wm_391 : (Jvm.Cond.code yX4_filled prog_6_method_22_code (3 : Nat) (Option.some Jvm.ClassFile.FieldType.int)) ∈ WSa := WSa_in 416 rfl rfl
theorem wm_392 : (Jvm.Cond.methodLink "FormatMillModel" (115 : Nat) yX4_fill) ∈ WSa := WSa_in 417 rfl rfl
theorem wm_394 : (Jvm.Cond.instanceMethod yX4_fill) ∈ WSa := WSa_in 419 rfl rfl
theorem wm_395 : (Jvm.Cond.code yX4_fill prog_6_method_21_code (10 : Nat) (Option.some Jvm.ClassFile.FieldType.boolean)) ∈ WSa := WSa_in 420 rfl rfl
theorem wm_396 : (Jvm.Cond.methodLink "FormatMillModel" (111 : Nat) yX4_puts) ∈ WSa := WSa_in 421 rfl rfl
theorem wm_398 : (Jvm.Cond.instanceMethod yX4_puts) ∈ WSa := WSa_in 423 rfl rfl
theorem wm_399 : (Jvm.Cond.code yX4_puts prog_6_method_20_code (5 : Nat) (Option.some Jvm.ClassFile.FieldType.boolean)) ∈ WSa := WSa_in 424 rfl rfl
theorem wm_400 : (Jvm.Cond.methodLink "FormatMillModel" (119 : Nat) yX4_isInteger) ∈ WSa := WSa_in 425 rfl rfl
theorem wm_402 : (Jvm.Cond.instanceMethod yX4_isInteger) ∈ WSa := WSa_in 427 rfl rfl
theorem wm_403 : (Jvm.Cond.code yX4_isInteger prog_6_method_16_code (7 : Nat) (Option.some Jvm.ClassFile.FieldType.boolean)) ∈ WSa := WSa_in 428 rfl rfl
theorem wm_404 : (Jvm.Cond.methodLink "FormatMillModel" (70 : Nat) yX4_isHex) ∈ WSa := WSa_in 429 rfl rfl
theorem wm_406 : (Jvm.Cond.instanceMethod yX4_isHex) ∈ WSa := WSa_in 431 rfl rfl
theorem wm_407 : (Jvm.Cond.code yX4_isHex prog_6_method_14_code (9 : Nat) (Option.some Jvm.ClassFile.FieldType.boolean)) ∈ WSa := WSa_in 432 rfl rfl
theorem wm_408 : (Jvm.Cond.methodLink "FormatMillModel" (58 : Nat) yX4_hex) ∈ WSa := WSa_in 433 rfl rfl
theorem wm_409 : (Jvm.Cond.static yX4_hex) ∈ WSa := WSa_in 434 rfl rfl
theorem wm_410 : (Jvm.Cond.code yX4_hex prog_6_method_13_code (1 : Nat) (Option.some Jvm.ClassFile.FieldType.int)) ∈ WSa := WSa_in 435 rfl rfl
theorem wm_411 : (Jvm.Cond.methodLink "FormatMillModel" (74 : Nat) yX4_isDecimal) ∈ WSa := WSa_in 436 rfl rfl
theorem wm_413 : (Jvm.Cond.instanceMethod yX4_isDecimal) ∈ WSa := WSa_in 438 rfl rfl
theorem wm_414 : (Jvm.Cond.code yX4_isDecimal prog_6_method_15_code (9 : Nat) (Option.some Jvm.ClassFile.FieldType.boolean)) ∈ WSa := WSa_in 439 rfl rfl
theorem wm_415 : (Jvm.Cond.constantLong "FormatMillModel" (66 : Nat) (-922337203685477580 : Int64)) ∈ WSa := WSa_in 440 rfl rfl
theorem wm_416 : (Jvm.Cond.constantLong "FormatMillModel" (68 : Nat) (-9223372036854775808 : Int64)) ∈ WSa := WSa_in 441 rfl rfl
theorem wm_417 : (Jvm.Cond.methodLink "FormatMillModel" (122 : Nat) yX4_bits) ∈ WSa := WSa_in 442 rfl rfl
theorem wm_419 : (Jvm.Cond.instanceMethod yX4_bits) ∈ WSa := WSa_in 444 rfl rfl
theorem wm_420 : (Jvm.Cond.code yX4_bits prog_6_method_12_code (8 : Nat) (Option.none : Option Jvm.ClassFile.FieldType)) ∈ WSa := WSa_in 445 rfl rfl
theorem wm_421 : (Jvm.Cond.methodLink "FormatMillLaw" (51 : Nat) yX4_madeAt) ∈ WSa := WSa_in 446 rfl rfl
theorem wm_422 : (Jvm.Cond.instanceMethod yX4_madeAt) ∈ WSa := WSa_in 447 rfl rfl
theorem wm_423 : (Jvm.Cond.selects "FormatMillModel" yX4_madeAt yX4_madeAt) ∈ WSa := WSa_in 448 rfl rfl
theorem wm_424 : (Jvm.Cond.code yX4_madeAt prog_6_method_24_code (2 : Nat) (Option.some Jvm.ClassFile.FieldType.int)) ∈ WSa := WSa_in 449 rfl rfl
theorem wm_425 : (Jvm.Cond.constantLong "FormatMillLaw" (32 : Nat) (4294967295 : Int64)) ∈ WSa := WSa_in 450 rfl rfl
theorem inX0 : ∀ w ∈ u_ws RX0 TX0 1, w ∈ WSa := by
  intro w hw
  obtain ⟨k, hk, rfl⟩ := List.mem_map.mp hw
  have hk := List.mem_range.mp hk
  match k, hk with
  | 0, _ => exact wm_74
theorem inX1 : ∀ w ∈ u_ws RX1 TX1 7, w ∈ WSa := by
  intro w hw
  obtain ⟨k, hk, rfl⟩ := List.mem_map.mp hw
  have hk := List.mem_range.mp hk
  match k, hk with
  | 0, _ => exact wm_51
  | 1, _ => exact wm_53
  | 2, _ => exact wm_55
  | 3, _ => exact wm_57
  | 4, _ => exact wm_59
  | 5, _ => exact wm_61
  | 6, _ => exact wm_63
theorem inX2 : ∀ w ∈ u_ws RX2 TX2 2, w ∈ WSa := by
  intro w hw
  obtain ⟨k, hk, rfl⟩ := List.mem_map.mp hw
  have hk := List.mem_range.mp hk
  match k, hk with
  | 0, _ => exact wm_26
  | 1, _ => exact wm_28
theorem inX3 : ∀ w ∈ u_ws RX3 TX3 9, w ∈ WSa := by
  intro w hw
  obtain ⟨k, hk, rfl⟩ := List.mem_map.mp hw
  have hk := List.mem_range.mp hk
  match k, hk with
  | 0, _ => exact wm_86
  | 1, _ => exact wm_88
  | 2, _ => exact wm_90
  | 3, _ => exact wm_92
  | 4, _ => exact wm_94
  | 5, _ => exact wm_96
  | 6, _ => exact wm_98
  | 7, _ => exact wm_100
  | 8, _ => exact wm_102
theorem inX4 : ∀ w ∈ u_ws RX4 TX4 20, w ∈ WSa := by
  intro w hw
  obtain ⟨k, hk, rfl⟩ := List.mem_map.mp hw
  have hk := List.mem_range.mp hk
  match k, hk with
  | 0, _ => exact wm_288
  | 1, _ => exact wm_290
  | 2, _ => exact wm_292
  | 3, _ => exact wm_294
  | 4, _ => exact wm_296
  | 5, _ => exact wm_298
  | 6, _ => exact wm_300
  | 7, _ => exact wm_302
  | 8, _ => exact wm_304
  | 9, _ => exact wm_306
  | 10, _ => exact wm_308
  | 11, _ => exact wm_310
  | 12, _ => exact wm_312
  | 13, _ => exact wm_314
  | 14, _ => exact wm_316
  | 15, _ => exact wm_318
  | 16, _ => exact wm_320
  | 17, _ => exact wm_322
  | 18, _ => exact wm_324
  | 19, _ => exact wm_326
  | k + 20, h => exact absurd h (by omega)
theorem ao_tbl : (Cond.arrayOver (.object RX2)) ∈ lw_tbl := List.mem_of_getElem? (i := 57) rfl
def nNs : List Cond := [(Jvm.Cond.fieldLinkNest "FormatMill$Numeral" (28 : Nat) "FormatMill$Text" "length" "I" "FormatMill"), (Jvm.Cond.fieldLinkNest "FormatMill$Place" (48 : Nat) "FormatMill$Text" "length" "I" "FormatMill"), (Jvm.Cond.fieldLinkNest "FormatMill" (69 : Nat) "FormatMill$Text" "length" "I" "FormatMill"), (Jvm.Cond.fieldLinkNest "FormatMill" (140 : Nat) "FormatMill$Place" "left" "Z" "FormatMill"), (Jvm.Cond.fieldLinkNest "FormatMill" (123 : Nat) "FormatMill$Place" "zeros" "Z" "FormatMill"), (Jvm.Cond.fieldLinkNest "FormatMill" (131 : Nat) "FormatMill$Place" "width" "I" "FormatMill"), (Jvm.Cond.fieldLinkNest "FormatMill" (102 : Nat) "FormatMill$Place" "kind" "I" "FormatMill"), (Jvm.Cond.fieldLinkNest "FormatMill" (99 : Nat) "FormatMill$Place" "behind" "I" "FormatMill"), (Jvm.Cond.fieldLinkNest "FormatMill" (112 : Nat) "FormatMill$Numeral" "value" "J" "FormatMill"), (Jvm.Cond.methodLinkNest "FormatMill$Place" (57 : Nat) yX3_isDecimalDigit "FormatMill"), (Jvm.Cond.methodLinkNest "FormatMill$Numeral" (35 : Nat) yX3_isDecimalDigit "FormatMill")]
theorem nn_0 : (Jvm.Cond.fieldLinkNest "FormatMill$Numeral" (28 : Nat) "FormatMill$Text" "length" "I" "FormatMill") ∈ nNs := List.mem_of_getElem? (i := 0) rfl
theorem nn_1 : (Jvm.Cond.fieldLinkNest "FormatMill$Place" (48 : Nat) "FormatMill$Text" "length" "I" "FormatMill") ∈ nNs := List.mem_of_getElem? (i := 1) rfl
theorem nn_2 : (Jvm.Cond.fieldLinkNest "FormatMill" (69 : Nat) "FormatMill$Text" "length" "I" "FormatMill") ∈ nNs := List.mem_of_getElem? (i := 2) rfl
theorem nn_3 : (Jvm.Cond.fieldLinkNest "FormatMill" (140 : Nat) "FormatMill$Place" "left" "Z" "FormatMill") ∈ nNs := List.mem_of_getElem? (i := 3) rfl
theorem nn_4 : (Jvm.Cond.fieldLinkNest "FormatMill" (123 : Nat) "FormatMill$Place" "zeros" "Z" "FormatMill") ∈ nNs := List.mem_of_getElem? (i := 4) rfl
theorem nn_5 : (Jvm.Cond.fieldLinkNest "FormatMill" (131 : Nat) "FormatMill$Place" "width" "I" "FormatMill") ∈ nNs := List.mem_of_getElem? (i := 5) rfl
theorem nn_6 : (Jvm.Cond.fieldLinkNest "FormatMill" (102 : Nat) "FormatMill$Place" "kind" "I" "FormatMill") ∈ nNs := List.mem_of_getElem? (i := 6) rfl
theorem nn_7 : (Jvm.Cond.fieldLinkNest "FormatMill" (99 : Nat) "FormatMill$Place" "behind" "I" "FormatMill") ∈ nNs := List.mem_of_getElem? (i := 7) rfl
theorem nn_8 : (Jvm.Cond.fieldLinkNest "FormatMill" (112 : Nat) "FormatMill$Numeral" "value" "J" "FormatMill") ∈ nNs := List.mem_of_getElem? (i := 8) rfl
theorem nn_9 : (Jvm.Cond.methodLinkNest "FormatMill$Place" (57 : Nat) yX3_isDecimalDigit "FormatMill") ∈ nNs := List.mem_of_getElem? (i := 9) rfl
theorem nn_10 : (Jvm.Cond.methodLinkNest "FormatMill$Numeral" (35 : Nat) yX3_isDecimalDigit "FormatMill") ∈ nNs := List.mem_of_getElem? (i := 10) rfl
theorem nNs_tab : ∀ w ∈ nNs, w.onTables = true := by
  intro w hw
  simp only [nNs, List.mem_cons, List.not_mem_nil, or_false] at hw
  rcases hw with rfl | rfl | rfl | rfl | rfl | rfl | rfl | rfl | rfl | rfl | rfl <;> rfl
theorem nNs_tbl : ∀ w ∈ nNs, w ∈ lw_tbl := by
  intro w hw
  simp only [nNs, List.mem_cons, List.not_mem_nil, or_false] at hw
  rcases hw with rfl | rfl | rfl | rfl | rfl | rfl | rfl | rfl | rfl | rfl | rfl
  · exact List.mem_of_getElem? (i := 48) rfl
  · exact List.mem_of_getElem? (i := 49) rfl
  · exact List.mem_of_getElem? (i := 50) rfl
  · exact List.mem_of_getElem? (i := 65) rfl
  · exact List.mem_of_getElem? (i := 67) rfl
  · exact List.mem_of_getElem? (i := 71) rfl
  · exact List.mem_of_getElem? (i := 73) rfl
  · exact List.mem_of_getElem? (i := 75) rfl
  · exact List.mem_of_getElem? (i := 98) rfl
  · exact List.mem_of_getElem? (i := 222) rfl
  · exact List.mem_of_getElem? (i := 259) rfl
theorem nNs_warm {s U : State} (hW : s.WarmedH U.vm) : ∀ w ∈ nNs, va_Nw w s → va_Nw w U := by
  intro w hw h
  simp only [nNs, List.mem_cons, List.not_mem_nil, or_false] at hw
  rcases hw with rfl | rfl | rfl | rfl | rfl | rfl | rfl | rfl | rfl | rfl | rfl <;> first | exact va_Nw.warmF hW h | exact va_Nw.warmM hW h
end
section
theorem dX3_init_0 : decode cX3_init 0 = .ok (.aload_n 0, 1) := by decide +kernel
theorem dX3_init_1 : decode cX3_init 1 = .ok (.invokespecial 1, 3) := by decide +kernel
theorem dX3_init_4 : decode cX3_init 4 = .ok (.aload_n 0, 1) := by decide +kernel
theorem dX3_init_5 : decode cX3_init 5 = .ok (.new 7, 3) := by decide +kernel
theorem dX3_init_8 : decode cX3_init 8 = .ok (.dup, 1) := by decide +kernel
theorem dX3_init_9 : decode cX3_init 9 = .ok (.sipush 400, 3) := by decide +kernel
theorem dX3_init_12 : decode cX3_init 12 = .ok (.invokespecial 11, 3) := by decide +kernel
theorem dX3_init_15 : decode cX3_init 15 = .ok (.putfield 14, 3) := by decide +kernel
theorem dX3_init_18 : decode cX3_init 18 = .ok (.aload_n 0, 1) := by decide +kernel
theorem dX3_init_19 : decode cX3_init 19 = .ok (.new 7, 3) := by decide +kernel
theorem dX3_init_22 : decode cX3_init 22 = .ok (.dup, 1) := by decide +kernel
theorem dX3_init_23 : decode cX3_init 23 = .ok (.sipush 400, 3) := by decide +kernel
theorem dX3_init_26 : decode cX3_init 26 = .ok (.invokespecial 11, 3) := by decide +kernel
theorem dX3_init_29 : decode cX3_init 29 = .ok (.putfield 18, 3) := by decide +kernel
theorem dX3_init_32 : decode cX3_init 32 = .ok (.aload_n 0, 1) := by decide +kernel
theorem dX3_init_33 : decode cX3_init 33 = .ok (.new 7, 3) := by decide +kernel
theorem dX3_init_36 : decode cX3_init 36 = .ok (.dup, 1) := by decide +kernel
theorem dX3_init_37 : decode cX3_init 37 = .ok (.sipush 1024, 3) := by decide +kernel
theorem dX3_init_40 : decode cX3_init 40 = .ok (.invokespecial 11, 3) := by decide +kernel
theorem dX3_init_43 : decode cX3_init 43 = .ok (.putfield 21, 3) := by decide +kernel
theorem dX3_init_46 : decode cX3_init 46 = .ok (.aload_n 0, 1) := by decide +kernel
theorem dX3_init_47 : decode cX3_init 47 = .ok (.bipush 20, 2) := by decide +kernel
theorem dX3_init_49 : decode cX3_init 49 = .ok (.anewarray 7, 3) := by decide +kernel
theorem dX3_init_52 : decode cX3_init 52 = .ok (.putfield 24, 3) := by decide +kernel
theorem dX3_init_55 : decode cX3_init 55 = .ok (.iconst 0, 1) := by decide +kernel
theorem dX3_init_56 : decode cX3_init 56 = .ok (.istore_n 1, 1) := by decide +kernel
theorem dX3_init_57 : decode cX3_init 57 = .ok (.iload_n 1, 1) := by decide +kernel
theorem dX3_init_58 : decode cX3_init 58 = .ok (.aload_n 0, 1) := by decide +kernel
theorem dX3_init_59 : decode cX3_init 59 = .ok (.getfield 24, 3) := by decide +kernel
theorem dX3_init_62 : decode cX3_init 62 = .ok (.arraylength, 1) := by decide +kernel
theorem dX3_init_63 : decode cX3_init 63 = .ok (.if_icmp .ge 24, 3) := by decide +kernel
theorem dX3_init_66 : decode cX3_init 66 = .ok (.aload_n 0, 1) := by decide +kernel
theorem dX3_init_67 : decode cX3_init 67 = .ok (.getfield 24, 3) := by decide +kernel
theorem dX3_init_70 : decode cX3_init 70 = .ok (.iload_n 1, 1) := by decide +kernel
theorem dX3_init_71 : decode cX3_init 71 = .ok (.new 7, 3) := by decide +kernel
theorem dX3_init_74 : decode cX3_init 74 = .ok (.dup, 1) := by decide +kernel
theorem dX3_init_75 : decode cX3_init 75 = .ok (.bipush 40, 2) := by decide +kernel
theorem dX3_init_77 : decode cX3_init 77 = .ok (.invokespecial 11, 3) := by decide +kernel
theorem dX3_init_80 : decode cX3_init 80 = .ok (.aastore, 1) := by decide +kernel
theorem dX3_init_81 : decode cX3_init 81 = .ok (.iinc 1 1, 3) := by decide +kernel
theorem dX3_init_84 : decode cX3_init 84 = .ok (.goto (-27), 3) := by decide +kernel
theorem dX3_init_87 : decode cX3_init 87 = .ok (.aload_n 0, 1) := by decide +kernel
theorem dX3_init_88 : decode cX3_init 88 = .ok (.iconst 0, 1) := by decide +kernel
theorem dX3_init_89 : decode cX3_init 89 = .ok (.putfield 28, 3) := by decide +kernel
theorem dX3_init_92 : decode cX3_init 92 = .ok (.aload_n 0, 1) := by decide +kernel
theorem dX3_init_93 : decode cX3_init 93 = .ok (.iconst 0, 1) := by decide +kernel
theorem dX3_init_94 : decode cX3_init 94 = .ok (.putfield 32, 3) := by decide +kernel
theorem dX3_init_97 : decode cX3_init 97 = .ok (.aload_n 0, 1) := by decide +kernel
theorem dX3_init_98 : decode cX3_init 98 = .ok (.new 35, 3) := by decide +kernel
theorem dX3_init_101 : decode cX3_init 101 = .ok (.dup, 1) := by decide +kernel
theorem dX3_init_102 : decode cX3_init 102 = .ok (.invokespecial 37, 3) := by decide +kernel
theorem dX3_init_105 : decode cX3_init 105 = .ok (.putfield 38, 3) := by decide +kernel
theorem dX3_init_108 : decode cX3_init 108 = .ok (.aload_n 0, 1) := by decide +kernel
theorem dX3_init_109 : decode cX3_init 109 = .ok (.new 42, 3) := by decide +kernel
theorem dX3_init_112 : decode cX3_init 112 = .ok (.dup, 1) := by decide +kernel
theorem dX3_init_113 : decode cX3_init 113 = .ok (.invokespecial 44, 3) := by decide +kernel
theorem dX3_init_116 : decode cX3_init 116 = .ok (.putfield 45, 3) := by decide +kernel
theorem dX3_init_119 : decode cX3_init 119 = .ok (.aload_n 0, 1) := by decide +kernel
theorem dX3_init_120 : decode cX3_init 120 = .ok (.new 7, 3) := by decide +kernel
theorem dX3_init_123 : decode cX3_init 123 = .ok (.dup, 1) := by decide +kernel
theorem dX3_init_124 : decode cX3_init 124 = .ok (.bipush 40, 2) := by decide +kernel
theorem dX3_init_126 : decode cX3_init 126 = .ok (.invokespecial 11, 3) := by decide +kernel
theorem dX3_init_129 : decode cX3_init 129 = .ok (.putfield 49, 3) := by decide +kernel
theorem dX3_init_132 : decode cX3_init 132 = .ok (.return_, 1) := by decide +kernel
theorem dX2_init_0 : decode cX2_init 0 = .ok (.aload_n 0, 1) := by decide +kernel
theorem dX2_init_1 : decode cX2_init 1 = .ok (.invokespecial 3, 3) := by decide +kernel
theorem dX2_init_4 : decode cX2_init 4 = .ok (.aload_n 0, 1) := by decide +kernel
theorem dX2_init_5 : decode cX2_init 5 = .ok (.iload_n 1, 1) := by decide +kernel
theorem dX2_init_6 : decode cX2_init 6 = .ok (.ifCond .ge 7, 3) := by decide +kernel
theorem dX2_init_9 : decode cX2_init 9 = .ok (.iconst 0, 1) := by decide +kernel
theorem dX2_init_10 : decode cX2_init 10 = .ok (.goto 4, 3) := by decide +kernel
theorem dX2_init_13 : decode cX2_init 13 = .ok (.iload_n 1, 1) := by decide +kernel
theorem dX2_init_14 : decode cX2_init 14 = .ok (.newarray .int, 2) := by decide +kernel
theorem dX2_init_16 : decode cX2_init 16 = .ok (.putfield 9, 3) := by decide +kernel
theorem dX2_init_19 : decode cX2_init 19 = .ok (.aload_n 0, 1) := by decide +kernel
theorem dX2_init_20 : decode cX2_init 20 = .ok (.iconst 0, 1) := by decide +kernel
theorem dX2_init_21 : decode cX2_init 21 = .ok (.putfield 15, 3) := by decide +kernel
theorem dX2_init_24 : decode cX2_init 24 = .ok (.return_, 1) := by decide +kernel
theorem dX1_init_0 : decode cX1_init 0 = .ok (.aload_n 0, 1) := by decide +kernel
theorem dX1_init_1 : decode cX1_init 1 = .ok (.invokespecial 3, 3) := by decide +kernel
theorem dX1_init_4 : decode cX1_init 4 = .ok (.aload_n 0, 1) := by decide +kernel
theorem dX1_init_5 : decode cX1_init 5 = .ok (.iconst (-1), 1) := by decide +kernel
theorem dX1_init_6 : decode cX1_init 6 = .ok (.putfield 9, 3) := by decide +kernel
theorem dX1_init_9 : decode cX1_init 9 = .ok (.return_, 1) := by decide +kernel
theorem dX0_init_0 : decode cX0_init 0 = .ok (.aload_n 0, 1) := by decide +kernel
theorem dX0_init_1 : decode cX0_init 1 = .ok (.invokespecial 3, 3) := by decide +kernel
theorem dX0_init_4 : decode cX0_init 4 = .ok (.aload_n 0, 1) := by decide +kernel
theorem dX0_init_5 : decode cX0_init 5 = .ok (.lconst 0, 1) := by decide +kernel
theorem dX0_init_6 : decode cX0_init 6 = .ok (.putfield 9, 3) := by decide +kernel
theorem dX0_init_9 : decode cX0_init 9 = .ok (.return_, 1) := by decide +kernel
theorem dX3_feed_0 : decode cX3_feed 0 = .ok (.aload_n 0, 1) := by decide +kernel
theorem dX3_feed_1 : decode cX3_feed 1 = .ok (.getfield 14, 3) := by decide +kernel
theorem dX3_feed_4 : decode cX3_feed 4 = .ok (.bipush 20, 2) := by decide +kernel
theorem dX3_feed_6 : decode cX3_feed 6 = .ok (.invokevirtual 52, 3) := by decide +kernel
theorem dX3_feed_9 : decode cX3_feed 9 = .ok (.ifCond .ne 5, 3) := by decide +kernel
theorem dX3_feed_12 : decode cX3_feed 12 = .ok (.iconst 0, 1) := by decide +kernel
theorem dX3_feed_13 : decode cX3_feed 13 = .ok (.ireturn, 1) := by decide +kernel
theorem dX3_feed_14 : decode cX3_feed 14 = .ok (.aload_n 0, 1) := by decide +kernel
theorem dX3_feed_15 : decode cX3_feed 15 = .ok (.getfield 14, 3) := by decide +kernel
theorem dX3_feed_18 : decode cX3_feed 18 = .ok (.iload_n 1, 1) := by decide +kernel
theorem dX3_feed_19 : decode cX3_feed 19 = .ok (.invokevirtual 56, 3) := by decide +kernel
theorem dX3_feed_22 : decode cX3_feed 22 = .ok (.aload_n 0, 1) := by decide +kernel
theorem dX3_feed_23 : decode cX3_feed 23 = .ok (.getfield 14, 3) := by decide +kernel
theorem dX3_feed_26 : decode cX3_feed 26 = .ok (.iload_n 2, 1) := by decide +kernel
theorem dX3_feed_27 : decode cX3_feed 27 = .ok (.invokevirtual 56, 3) := by decide +kernel
theorem dX3_feed_30 : decode cX3_feed 30 = .ok (.aload_n 0, 1) := by decide +kernel
theorem dX3_feed_31 : decode cX3_feed 31 = .ok (.getfield 14, 3) := by decide +kernel
theorem dX3_feed_34 : decode cX3_feed 34 = .ok (.iload_n 3, 1) := by decide +kernel
theorem dX3_feed_35 : decode cX3_feed 35 = .ok (.invokevirtual 56, 3) := by decide +kernel
theorem dX3_feed_38 : decode cX3_feed 38 = .ok (.aload_n 0, 1) := by decide +kernel
theorem dX3_feed_39 : decode cX3_feed 39 = .ok (.getfield 14, 3) := by decide +kernel
theorem dX3_feed_42 : decode cX3_feed 42 = .ok (.iload 4, 2) := by decide +kernel
theorem dX3_feed_44 : decode cX3_feed 44 = .ok (.invokevirtual 56, 3) := by decide +kernel
theorem dX3_feed_47 : decode cX3_feed 47 = .ok (.aload_n 0, 1) := by decide +kernel
theorem dX3_feed_48 : decode cX3_feed 48 = .ok (.getfield 14, 3) := by decide +kernel
theorem dX3_feed_51 : decode cX3_feed 51 = .ok (.iload 5, 2) := by decide +kernel
theorem dX3_feed_53 : decode cX3_feed 53 = .ok (.invokevirtual 56, 3) := by decide +kernel
theorem dX3_feed_56 : decode cX3_feed 56 = .ok (.iconst 1, 1) := by decide +kernel
theorem dX3_feed_57 : decode cX3_feed 57 = .ok (.ireturn, 1) := by decide +kernel
theorem dX2_hasRoomFor_0 : decode cX2_hasRoomFor 0 = .ok (.iload_n 1, 1) := by decide +kernel
theorem dX2_hasRoomFor_1 : decode cX2_hasRoomFor 1 = .ok (.aload_n 0, 1) := by decide +kernel
theorem dX2_hasRoomFor_2 : decode cX2_hasRoomFor 2 = .ok (.getfield 9, 3) := by decide +kernel
theorem dX2_hasRoomFor_5 : decode cX2_hasRoomFor 5 = .ok (.arraylength, 1) := by decide +kernel
theorem dX2_hasRoomFor_6 : decode cX2_hasRoomFor 6 = .ok (.aload_n 0, 1) := by decide +kernel
theorem dX2_hasRoomFor_7 : decode cX2_hasRoomFor 7 = .ok (.getfield 15, 3) := by decide +kernel
theorem dX2_hasRoomFor_10 : decode cX2_hasRoomFor 10 = .ok (.isub, 1) := by decide +kernel
theorem dX2_hasRoomFor_11 : decode cX2_hasRoomFor 11 = .ok (.if_icmp .gt 7, 3) := by decide +kernel
theorem dX2_hasRoomFor_14 : decode cX2_hasRoomFor 14 = .ok (.iconst 1, 1) := by decide +kernel
theorem dX2_hasRoomFor_15 : decode cX2_hasRoomFor 15 = .ok (.goto 4, 3) := by decide +kernel
theorem dX2_hasRoomFor_18 : decode cX2_hasRoomFor 18 = .ok (.iconst 0, 1) := by decide +kernel
theorem dX2_hasRoomFor_19 : decode cX2_hasRoomFor 19 = .ok (.ireturn, 1) := by decide +kernel
theorem dX2_addFourBytes_0 : decode cX2_addFourBytes 0 = .ok (.aload_n 0, 1) := by decide +kernel
theorem dX2_addFourBytes_1 : decode cX2_addFourBytes 1 = .ok (.iload_n 1, 1) := by decide +kernel
theorem dX2_addFourBytes_2 : decode cX2_addFourBytes 2 = .ok (.bipush 24, 2) := by decide +kernel
theorem dX2_addFourBytes_4 : decode cX2_addFourBytes 4 = .ok (.iushr, 1) := by decide +kernel
theorem dX2_addFourBytes_5 : decode cX2_addFourBytes 5 = .ok (.invokevirtual 19, 3) := by decide +kernel
theorem dX2_addFourBytes_8 : decode cX2_addFourBytes 8 = .ok (.pop, 1) := by decide +kernel
theorem dX2_addFourBytes_9 : decode cX2_addFourBytes 9 = .ok (.aload_n 0, 1) := by decide +kernel
theorem dX2_addFourBytes_10 : decode cX2_addFourBytes 10 = .ok (.iload_n 1, 1) := by decide +kernel
theorem dX2_addFourBytes_11 : decode cX2_addFourBytes 11 = .ok (.bipush 16, 2) := by decide +kernel
theorem dX2_addFourBytes_13 : decode cX2_addFourBytes 13 = .ok (.iushr, 1) := by decide +kernel
theorem dX2_addFourBytes_14 : decode cX2_addFourBytes 14 = .ok (.invokevirtual 19, 3) := by decide +kernel
theorem dX2_addFourBytes_17 : decode cX2_addFourBytes 17 = .ok (.pop, 1) := by decide +kernel
theorem dX2_addFourBytes_18 : decode cX2_addFourBytes 18 = .ok (.aload_n 0, 1) := by decide +kernel
theorem dX2_addFourBytes_19 : decode cX2_addFourBytes 19 = .ok (.iload_n 1, 1) := by decide +kernel
theorem dX2_addFourBytes_20 : decode cX2_addFourBytes 20 = .ok (.bipush 8, 2) := by decide +kernel
theorem dX2_addFourBytes_22 : decode cX2_addFourBytes 22 = .ok (.iushr, 1) := by decide +kernel
theorem dX2_addFourBytes_23 : decode cX2_addFourBytes 23 = .ok (.invokevirtual 19, 3) := by decide +kernel
theorem dX2_addFourBytes_26 : decode cX2_addFourBytes 26 = .ok (.pop, 1) := by decide +kernel
theorem dX2_addFourBytes_27 : decode cX2_addFourBytes 27 = .ok (.aload_n 0, 1) := by decide +kernel
theorem dX2_addFourBytes_28 : decode cX2_addFourBytes 28 = .ok (.iload_n 1, 1) := by decide +kernel
theorem dX2_addFourBytes_29 : decode cX2_addFourBytes 29 = .ok (.invokevirtual 19, 3) := by decide +kernel
theorem dX2_addFourBytes_32 : decode cX2_addFourBytes 32 = .ok (.pop, 1) := by decide +kernel
theorem dX2_addFourBytes_33 : decode cX2_addFourBytes 33 = .ok (.return_, 1) := by decide +kernel
theorem dX2_add_0 : decode cX2_add 0 = .ok (.aload_n 0, 1) := by decide +kernel
theorem dX2_add_1 : decode cX2_add 1 = .ok (.getfield 15, 3) := by decide +kernel
theorem dX2_add_4 : decode cX2_add 4 = .ok (.ifCond .lt 15, 3) := by decide +kernel
theorem dX2_add_7 : decode cX2_add 7 = .ok (.aload_n 0, 1) := by decide +kernel
theorem dX2_add_8 : decode cX2_add 8 = .ok (.getfield 15, 3) := by decide +kernel
theorem dX2_add_11 : decode cX2_add 11 = .ok (.aload_n 0, 1) := by decide +kernel
theorem dX2_add_12 : decode cX2_add 12 = .ok (.getfield 9, 3) := by decide +kernel
theorem dX2_add_15 : decode cX2_add 15 = .ok (.arraylength, 1) := by decide +kernel
theorem dX2_add_16 : decode cX2_add 16 = .ok (.if_icmp .lt 5, 3) := by decide +kernel
theorem dX2_add_19 : decode cX2_add 19 = .ok (.iconst 0, 1) := by decide +kernel
theorem dX2_add_20 : decode cX2_add 20 = .ok (.ireturn, 1) := by decide +kernel
theorem dX2_add_21 : decode cX2_add 21 = .ok (.aload_n 0, 1) := by decide +kernel
theorem dX2_add_22 : decode cX2_add 22 = .ok (.getfield 9, 3) := by decide +kernel
theorem dX2_add_25 : decode cX2_add 25 = .ok (.aload_n 0, 1) := by decide +kernel
theorem dX2_add_26 : decode cX2_add 26 = .ok (.getfield 15, 3) := by decide +kernel
theorem dX2_add_29 : decode cX2_add 29 = .ok (.iload_n 1, 1) := by decide +kernel
theorem dX2_add_30 : decode cX2_add 30 = .ok (.sipush 255, 3) := by decide +kernel
theorem dX2_add_33 : decode cX2_add 33 = .ok (.iand, 1) := by decide +kernel
theorem dX2_add_34 : decode cX2_add 34 = .ok (.iastore, 1) := by decide +kernel
theorem dX2_add_35 : decode cX2_add 35 = .ok (.aload_n 0, 1) := by decide +kernel
theorem dX2_add_36 : decode cX2_add 36 = .ok (.dup, 1) := by decide +kernel
theorem dX2_add_37 : decode cX2_add 37 = .ok (.getfield 15, 3) := by decide +kernel
theorem dX2_add_40 : decode cX2_add 40 = .ok (.iconst 1, 1) := by decide +kernel
theorem dX2_add_41 : decode cX2_add 41 = .ok (.iadd, 1) := by decide +kernel
theorem dX2_add_42 : decode cX2_add 42 = .ok (.putfield 15, 3) := by decide +kernel
theorem dX2_add_45 : decode cX2_add 45 = .ok (.iconst 1, 1) := by decide +kernel
theorem dX2_add_46 : decode cX2_add 46 = .ok (.ireturn, 1) := by decide +kernel
theorem dX3_end_0 : decode cX3_end 0 = .ok (.aload_n 0, 1) := by decide +kernel
theorem dX3_end_1 : decode cX3_end 1 = .ok (.getfield 14, 3) := by decide +kernel
theorem dX3_end_4 : decode cX3_end 4 = .ok (.iload_n 1, 1) := by decide +kernel
theorem dX3_end_5 : decode cX3_end 5 = .ok (.invokevirtual 59, 3) := by decide +kernel
theorem dX3_end_8 : decode cX3_end 8 = .ok (.ireturn, 1) := by decide +kernel
theorem dX2_shorten_0 : decode cX2_shorten 0 = .ok (.iload_n 1, 1) := by decide +kernel
theorem dX2_shorten_1 : decode cX2_shorten 1 = .ok (.ifCond .lt 11, 3) := by decide +kernel
theorem dX2_shorten_4 : decode cX2_shorten 4 = .ok (.iload_n 1, 1) := by decide +kernel
theorem dX2_shorten_5 : decode cX2_shorten 5 = .ok (.aload_n 0, 1) := by decide +kernel
theorem dX2_shorten_6 : decode cX2_shorten 6 = .ok (.getfield 15, 3) := by decide +kernel
theorem dX2_shorten_9 : decode cX2_shorten 9 = .ok (.if_icmp .le 5, 3) := by decide +kernel
theorem dX2_shorten_12 : decode cX2_shorten 12 = .ok (.iconst 0, 1) := by decide +kernel
theorem dX2_shorten_13 : decode cX2_shorten 13 = .ok (.ireturn, 1) := by decide +kernel
theorem dX2_shorten_14 : decode cX2_shorten 14 = .ok (.aload_n 0, 1) := by decide +kernel
theorem dX2_shorten_15 : decode cX2_shorten 15 = .ok (.iload_n 1, 1) := by decide +kernel
theorem dX2_shorten_16 : decode cX2_shorten 16 = .ok (.putfield 15, 3) := by decide +kernel
theorem dX2_shorten_19 : decode cX2_shorten 19 = .ok (.iconst 1, 1) := by decide +kernel
theorem dX2_shorten_20 : decode cX2_shorten 20 = .ok (.ireturn, 1) := by decide +kernel
theorem dX3_format_0 : decode cX3_format 0 = .ok (.aload_n 0, 1) := by decide +kernel
theorem dX3_format_1 : decode cX3_format 1 = .ok (.getfield 18, 3) := by decide +kernel
theorem dX3_format_4 : decode cX3_format 4 = .ok (.invokevirtual 62, 3) := by decide +kernel
theorem dX3_format_7 : decode cX3_format 7 = .ok (.aload_n 0, 1) := by decide +kernel
theorem dX3_format_8 : decode cX3_format 8 = .ok (.getfield 18, 3) := by decide +kernel
theorem dX3_format_11 : decode cX3_format 11 = .ok (.aload_n 0, 1) := by decide +kernel
theorem dX3_format_12 : decode cX3_format 12 = .ok (.getfield 14, 3) := by decide +kernel
theorem dX3_format_15 : decode cX3_format 15 = .ok (.invokevirtual 65, 3) := by decide +kernel
theorem dX3_format_18 : decode cX3_format 18 = .ok (.aload_n 0, 1) := by decide +kernel
theorem dX3_format_19 : decode cX3_format 19 = .ok (.getfield 14, 3) := by decide +kernel
theorem dX3_format_22 : decode cX3_format 22 = .ok (.invokevirtual 62, 3) := by decide +kernel
theorem dX3_format_25 : decode cX3_format 25 = .ok (.aload_n 0, 1) := by decide +kernel
theorem dX3_format_26 : decode cX3_format 26 = .ok (.getfield 18, 3) := by decide +kernel
theorem dX3_format_29 : decode cX3_format 29 = .ok (.getfield 69, 3) := by decide +kernel
theorem dX3_format_32 : decode cX3_format 32 = .ok (.ireturn, 1) := by decide +kernel
theorem dX2_empty_0 : decode cX2_empty 0 = .ok (.aload_n 0, 1) := by decide +kernel
theorem dX2_empty_1 : decode cX2_empty 1 = .ok (.iconst 0, 1) := by decide +kernel
theorem dX2_empty_2 : decode cX2_empty 2 = .ok (.putfield 15, 3) := by decide +kernel
theorem dX2_empty_5 : decode cX2_empty 5 = .ok (.return_, 1) := by decide +kernel
theorem dX2_addText_0 : decode cX2_addText 0 = .ok (.aload_n 1, 1) := by decide +kernel
theorem dX2_addText_1 : decode cX2_addText 1 = .ok (.getfield 15, 3) := by decide +kernel
theorem dX2_addText_4 : decode cX2_addText 4 = .ok (.istore_n 2, 1) := by decide +kernel
theorem dX2_addText_5 : decode cX2_addText 5 = .ok (.iconst 0, 1) := by decide +kernel
theorem dX2_addText_6 : decode cX2_addText 6 = .ok (.istore_n 3, 1) := by decide +kernel
theorem dX2_addText_7 : decode cX2_addText 7 = .ok (.iload_n 3, 1) := by decide +kernel
theorem dX2_addText_8 : decode cX2_addText 8 = .ok (.iload_n 2, 1) := by decide +kernel
theorem dX2_addText_9 : decode cX2_addText 9 = .ok (.if_icmp .ge 19, 3) := by decide +kernel
theorem dX2_addText_12 : decode cX2_addText 12 = .ok (.aload_n 0, 1) := by decide +kernel
theorem dX2_addText_13 : decode cX2_addText 13 = .ok (.aload_n 1, 1) := by decide +kernel
theorem dX2_addText_14 : decode cX2_addText 14 = .ok (.iload_n 3, 1) := by decide +kernel
theorem dX2_addText_15 : decode cX2_addText 15 = .ok (.invokevirtual 23, 3) := by decide +kernel
theorem dX2_addText_18 : decode cX2_addText 18 = .ok (.invokevirtual 19, 3) := by decide +kernel
theorem dX2_addText_21 : decode cX2_addText 21 = .ok (.pop, 1) := by decide +kernel
theorem dX2_addText_22 : decode cX2_addText 22 = .ok (.iinc 3 1, 3) := by decide +kernel
theorem dX2_addText_25 : decode cX2_addText 25 = .ok (.goto (-18), 3) := by decide +kernel
theorem dX2_addText_28 : decode cX2_addText 28 = .ok (.return_, 1) := by decide +kernel
theorem dX2_at_0 : decode cX2_at 0 = .ok (.iload_n 1, 1) := by decide +kernel
theorem dX2_at_1 : decode cX2_at 1 = .ok (.ifCond .lt 20, 3) := by decide +kernel
theorem dX2_at_4 : decode cX2_at 4 = .ok (.iload_n 1, 1) := by decide +kernel
theorem dX2_at_5 : decode cX2_at 5 = .ok (.aload_n 0, 1) := by decide +kernel
theorem dX2_at_6 : decode cX2_at 6 = .ok (.getfield 15, 3) := by decide +kernel
theorem dX2_at_9 : decode cX2_at 9 = .ok (.if_icmp .ge 12, 3) := by decide +kernel
theorem dX2_at_12 : decode cX2_at 12 = .ok (.iload_n 1, 1) := by decide +kernel
theorem dX2_at_13 : decode cX2_at 13 = .ok (.aload_n 0, 1) := by decide +kernel
theorem dX2_at_14 : decode cX2_at 14 = .ok (.getfield 9, 3) := by decide +kernel
theorem dX2_at_17 : decode cX2_at 17 = .ok (.arraylength, 1) := by decide +kernel
theorem dX2_at_18 : decode cX2_at 18 = .ok (.if_icmp .lt 7, 3) := by decide +kernel
theorem dX2_at_21 : decode cX2_at 21 = .ok (.iconst (-1), 1) := by decide +kernel
theorem dX2_at_22 : decode cX2_at 22 = .ok (.goto 9, 3) := by decide +kernel
theorem dX2_at_25 : decode cX2_at 25 = .ok (.aload_n 0, 1) := by decide +kernel
theorem dX2_at_26 : decode cX2_at 26 = .ok (.getfield 9, 3) := by decide +kernel
theorem dX2_at_29 : decode cX2_at 29 = .ok (.iload_n 1, 1) := by decide +kernel
theorem dX2_at_30 : decode cX2_at 30 = .ok (.iaload, 1) := by decide +kernel
theorem dX2_at_31 : decode cX2_at 31 = .ok (.ireturn, 1) := by decide +kernel
theorem dX3_argument_0 : decode cX3_argument 0 = .ok (.iconst (-1), 1) := by decide +kernel
theorem dX3_argument_1 : decode cX3_argument 1 = .ok (.istore_n 1, 1) := by decide +kernel
theorem dX3_argument_2 : decode cX3_argument 2 = .ok (.aload_n 0, 1) := by decide +kernel
theorem dX3_argument_3 : decode cX3_argument 3 = .ok (.getfield 14, 3) := by decide +kernel
theorem dX3_argument_6 : decode cX3_argument 6 = .ok (.getfield 69, 3) := by decide +kernel
theorem dX3_argument_9 : decode cX3_argument 9 = .ok (.bipush 40, 2) := by decide +kernel
theorem dX3_argument_11 : decode cX3_argument 11 = .ok (.if_icmp .gt 28, 3) := by decide +kernel
theorem dX3_argument_14 : decode cX3_argument 14 = .ok (.aload_n 0, 1) := by decide +kernel
theorem dX3_argument_15 : decode cX3_argument 15 = .ok (.invokevirtual 72, 3) := by decide +kernel
theorem dX3_argument_18 : decode cX3_argument 18 = .ok (.ifCond .eq 21, 3) := by decide +kernel
theorem dX3_argument_21 : decode cX3_argument 21 = .ok (.aload_n 0, 1) := by decide +kernel
theorem dX3_argument_22 : decode cX3_argument 22 = .ok (.invokevirtual 76, 3) := by decide +kernel
theorem dX3_argument_25 : decode cX3_argument 25 = .ok (.aload_n 0, 1) := by decide +kernel
theorem dX3_argument_26 : decode cX3_argument 26 = .ok (.getfield 14, 3) := by decide +kernel
theorem dX3_argument_29 : decode cX3_argument 29 = .ok (.invokevirtual 65, 3) := by decide +kernel
theorem dX3_argument_32 : decode cX3_argument 32 = .ok (.aload_n 0, 1) := by decide +kernel
theorem dX3_argument_33 : decode cX3_argument 33 = .ok (.getfield 28, 3) := by decide +kernel
theorem dX3_argument_36 : decode cX3_argument 36 = .ok (.iconst 1, 1) := by decide +kernel
theorem dX3_argument_37 : decode cX3_argument 37 = .ok (.isub, 1) := by decide +kernel
theorem dX3_argument_38 : decode cX3_argument 38 = .ok (.istore_n 1, 1) := by decide +kernel
theorem dX3_argument_39 : decode cX3_argument 39 = .ok (.aload_n 0, 1) := by decide +kernel
theorem dX3_argument_40 : decode cX3_argument 40 = .ok (.getfield 14, 3) := by decide +kernel
theorem dX3_argument_43 : decode cX3_argument 43 = .ok (.invokevirtual 62, 3) := by decide +kernel
theorem dX3_argument_46 : decode cX3_argument 46 = .ok (.iload_n 1, 1) := by decide +kernel
theorem dX3_argument_47 : decode cX3_argument 47 = .ok (.ireturn, 1) := by decide +kernel
theorem dX3_hasRoomForArgument_0 : decode cX3_hasRoomForArgument 0 = .ok (.aload_n 0, 1) := by decide +kernel
theorem dX3_hasRoomForArgument_1 : decode cX3_hasRoomForArgument 1 = .ok (.getfield 28, 3) := by decide +kernel
theorem dX3_hasRoomForArgument_4 : decode cX3_hasRoomForArgument 4 = .ok (.ifCond .lt 19, 3) := by decide +kernel
theorem dX3_hasRoomForArgument_7 : decode cX3_hasRoomForArgument 7 = .ok (.aload_n 0, 1) := by decide +kernel
theorem dX3_hasRoomForArgument_8 : decode cX3_hasRoomForArgument 8 = .ok (.getfield 28, 3) := by decide +kernel
theorem dX3_hasRoomForArgument_11 : decode cX3_hasRoomForArgument 11 = .ok (.aload_n 0, 1) := by decide +kernel
theorem dX3_hasRoomForArgument_12 : decode cX3_hasRoomForArgument 12 = .ok (.getfield 24, 3) := by decide +kernel
theorem dX3_hasRoomForArgument_15 : decode cX3_hasRoomForArgument 15 = .ok (.arraylength, 1) := by decide +kernel
theorem dX3_hasRoomForArgument_16 : decode cX3_hasRoomForArgument 16 = .ok (.if_icmp .ge 7, 3) := by decide +kernel
theorem dX3_hasRoomForArgument_19 : decode cX3_hasRoomForArgument 19 = .ok (.iconst 1, 1) := by decide +kernel
theorem dX3_hasRoomForArgument_20 : decode cX3_hasRoomForArgument 20 = .ok (.goto 4, 3) := by decide +kernel
theorem dX3_hasRoomForArgument_23 : decode cX3_hasRoomForArgument 23 = .ok (.iconst 0, 1) := by decide +kernel
theorem dX3_hasRoomForArgument_24 : decode cX3_hasRoomForArgument 24 = .ok (.ireturn, 1) := by decide +kernel
theorem dX3_nextArgument_0 : decode cX3_nextArgument 0 = .ok (.aload_n 0, 1) := by decide +kernel
theorem dX3_nextArgument_1 : decode cX3_nextArgument 1 = .ok (.getfield 24, 3) := by decide +kernel
theorem dX3_nextArgument_4 : decode cX3_nextArgument 4 = .ok (.aload_n 0, 1) := by decide +kernel
theorem dX3_nextArgument_5 : decode cX3_nextArgument 5 = .ok (.getfield 28, 3) := by decide +kernel
theorem dX3_nextArgument_8 : decode cX3_nextArgument 8 = .ok (.aaload, 1) := by decide +kernel
theorem dX3_nextArgument_9 : decode cX3_nextArgument 9 = .ok (.astore_n 1, 1) := by decide +kernel
theorem dX3_nextArgument_10 : decode cX3_nextArgument 10 = .ok (.aload_n 0, 1) := by decide +kernel
theorem dX3_nextArgument_11 : decode cX3_nextArgument 11 = .ok (.dup, 1) := by decide +kernel
theorem dX3_nextArgument_12 : decode cX3_nextArgument 12 = .ok (.getfield 28, 3) := by decide +kernel
theorem dX3_nextArgument_15 : decode cX3_nextArgument 15 = .ok (.iconst 1, 1) := by decide +kernel
theorem dX3_nextArgument_16 : decode cX3_nextArgument 16 = .ok (.iadd, 1) := by decide +kernel
theorem dX3_nextArgument_17 : decode cX3_nextArgument 17 = .ok (.putfield 28, 3) := by decide +kernel
theorem dX3_nextArgument_20 : decode cX3_nextArgument 20 = .ok (.aload_n 1, 1) := by decide +kernel
theorem dX3_nextArgument_21 : decode cX3_nextArgument 21 = .ok (.invokevirtual 62, 3) := by decide +kernel
theorem dX3_nextArgument_24 : decode cX3_nextArgument 24 = .ok (.aload_n 1, 1) := by decide +kernel
theorem dX3_nextArgument_25 : decode cX3_nextArgument 25 = .ok (.areturn, 1) := by decide +kernel
theorem dX3_number_0 : decode cX3_number 0 = .ok (.aload_n 0, 1) := by decide +kernel
theorem dX3_number_1 : decode cX3_number 1 = .ok (.invokevirtual 72, 3) := by decide +kernel
theorem dX3_number_4 : decode cX3_number 4 = .ok (.ifCond .ne 5, 3) := by decide +kernel
theorem dX3_number_7 : decode cX3_number 7 = .ok (.iconst (-1), 1) := by decide +kernel
theorem dX3_number_8 : decode cX3_number 8 = .ok (.ireturn, 1) := by decide +kernel
theorem dX3_number_9 : decode cX3_number 9 = .ok (.aload_n 0, 1) := by decide +kernel
theorem dX3_number_10 : decode cX3_number 10 = .ok (.invokevirtual 76, 3) := by decide +kernel
theorem dX3_number_13 : decode cX3_number 13 = .ok (.astore_n 3, 1) := by decide +kernel
theorem dX3_number_14 : decode cX3_number 14 = .ok (.lload_n 1, 1) := by decide +kernel
theorem dX3_number_15 : decode cX3_number 15 = .ok (.lconst 0, 1) := by decide +kernel
theorem dX3_number_16 : decode cX3_number 16 = .ok (.lcmp, 1) := by decide +kernel
theorem dX3_number_17 : decode cX3_number 17 = .ok (.ifCond .ge 10, 3) := by decide +kernel
theorem dX3_number_20 : decode cX3_number 20 = .ok (.aload_n 3, 1) := by decide +kernel
theorem dX3_number_21 : decode cX3_number 21 = .ok (.bipush 45, 2) := by decide +kernel
theorem dX3_number_23 : decode cX3_number 23 = .ok (.invokevirtual 80, 3) := by decide +kernel
theorem dX3_number_26 : decode cX3_number 26 = .ok (.pop, 1) := by decide +kernel
theorem dX3_number_27 : decode cX3_number 27 = .ok (.aload_n 3, 1) := by decide +kernel
theorem dX3_number_28 : decode cX3_number 28 = .ok (.lload_n 1, 1) := by decide +kernel
theorem dX3_number_29 : decode cX3_number 29 = .ok (.invokevirtual 83, 3) := by decide +kernel
theorem dX3_number_32 : decode cX3_number 32 = .ok (.aload_n 0, 1) := by decide +kernel
theorem dX3_number_33 : decode cX3_number 33 = .ok (.getfield 28, 3) := by decide +kernel
theorem dX3_number_36 : decode cX3_number 36 = .ok (.iconst 1, 1) := by decide +kernel
theorem dX3_number_37 : decode cX3_number 37 = .ok (.isub, 1) := by decide +kernel
theorem dX3_number_38 : decode cX3_number 38 = .ok (.ireturn, 1) := by decide +kernel
theorem dX2_addDecimalDigits_0 : decode cX2_addDecimalDigits 0 = .ok (.iconst 0, 1) := by decide +kernel
theorem dX2_addDecimalDigits_1 : decode cX2_addDecimalDigits 1 = .ok (.istore_n 3, 1) := by decide +kernel
theorem dX2_addDecimalDigits_2 : decode cX2_addDecimalDigits 2 = .ok (.ldc2_w 27, 3) := by decide +kernel
theorem dX2_addDecimalDigits_5 : decode cX2_addDecimalDigits 5 = .ok (.lstore 4, 2) := by decide +kernel
theorem dX2_addDecimalDigits_7 : decode cX2_addDecimalDigits 7 = .ok (.lload 4, 2) := by decide +kernel
theorem dX2_addDecimalDigits_9 : decode cX2_addDecimalDigits 9 = .ok (.lconst 0, 1) := by decide +kernel
theorem dX2_addDecimalDigits_10 : decode cX2_addDecimalDigits 10 = .ok (.lcmp, 1) := by decide +kernel
theorem dX2_addDecimalDigits_11 : decode cX2_addDecimalDigits 11 = .ok (.ifCond .le 64, 3) := by decide +kernel
theorem dX2_addDecimalDigits_14 : decode cX2_addDecimalDigits 14 = .ok (.lload_n 1, 1) := by decide +kernel
theorem dX2_addDecimalDigits_15 : decode cX2_addDecimalDigits 15 = .ok (.lload 4, 2) := by decide +kernel
theorem dX2_addDecimalDigits_17 : decode cX2_addDecimalDigits 17 = .ok (.ldiv, 1) := by decide +kernel
theorem dX2_addDecimalDigits_18 : decode cX2_addDecimalDigits 18 = .ok (.ldc2_w 29, 3) := by decide +kernel
theorem dX2_addDecimalDigits_21 : decode cX2_addDecimalDigits 21 = .ok (.lrem, 1) := by decide +kernel
theorem dX2_addDecimalDigits_22 : decode cX2_addDecimalDigits 22 = .ok (.l2i, 1) := by decide +kernel
theorem dX2_addDecimalDigits_23 : decode cX2_addDecimalDigits 23 = .ok (.invokestatic 31, 3) := by decide +kernel
theorem dX2_addDecimalDigits_26 : decode cX2_addDecimalDigits 26 = .ok (.istore 6, 2) := by decide +kernel
theorem dX2_addDecimalDigits_28 : decode cX2_addDecimalDigits 28 = .ok (.iload_n 3, 1) := by decide +kernel
theorem dX2_addDecimalDigits_29 : decode cX2_addDecimalDigits 29 = .ok (.ifCond .ne 15, 3) := by decide +kernel
theorem dX2_addDecimalDigits_32 : decode cX2_addDecimalDigits 32 = .ok (.iload 6, 2) := by decide +kernel
theorem dX2_addDecimalDigits_34 : decode cX2_addDecimalDigits 34 = .ok (.ifCond .ne 10, 3) := by decide +kernel
theorem dX2_addDecimalDigits_37 : decode cX2_addDecimalDigits 37 = .ok (.lload 4, 2) := by decide +kernel
theorem dX2_addDecimalDigits_39 : decode cX2_addDecimalDigits 39 = .ok (.lconst 1, 1) := by decide +kernel
theorem dX2_addDecimalDigits_40 : decode cX2_addDecimalDigits 40 = .ok (.lcmp, 1) := by decide +kernel
theorem dX2_addDecimalDigits_41 : decode cX2_addDecimalDigits 41 = .ok (.ifCond .ne 7, 3) := by decide +kernel
theorem dX2_addDecimalDigits_44 : decode cX2_addDecimalDigits 44 = .ok (.iconst 1, 1) := by decide +kernel
theorem dX2_addDecimalDigits_45 : decode cX2_addDecimalDigits 45 = .ok (.goto 4, 3) := by decide +kernel
theorem dX2_addDecimalDigits_48 : decode cX2_addDecimalDigits 48 = .ok (.iconst 0, 1) := by decide +kernel
theorem dX2_addDecimalDigits_49 : decode cX2_addDecimalDigits 49 = .ok (.istore_n 3, 1) := by decide +kernel
theorem dX2_addDecimalDigits_50 : decode cX2_addDecimalDigits 50 = .ok (.iload_n 3, 1) := by decide +kernel
theorem dX2_addDecimalDigits_51 : decode cX2_addDecimalDigits 51 = .ok (.ifCond .eq 13, 3) := by decide +kernel
theorem dX2_addDecimalDigits_54 : decode cX2_addDecimalDigits 54 = .ok (.aload_n 0, 1) := by decide +kernel
theorem dX2_addDecimalDigits_55 : decode cX2_addDecimalDigits 55 = .ok (.bipush 48, 2) := by decide +kernel
theorem dX2_addDecimalDigits_57 : decode cX2_addDecimalDigits 57 = .ok (.iload 6, 2) := by decide +kernel
theorem dX2_addDecimalDigits_59 : decode cX2_addDecimalDigits 59 = .ok (.iadd, 1) := by decide +kernel
theorem dX2_addDecimalDigits_60 : decode cX2_addDecimalDigits 60 = .ok (.invokevirtual 19, 3) := by decide +kernel
theorem dX2_addDecimalDigits_63 : decode cX2_addDecimalDigits 63 = .ok (.pop, 1) := by decide +kernel
theorem dX2_addDecimalDigits_64 : decode cX2_addDecimalDigits 64 = .ok (.lload 4, 2) := by decide +kernel
theorem dX2_addDecimalDigits_66 : decode cX2_addDecimalDigits 66 = .ok (.ldc2_w 29, 3) := by decide +kernel
theorem dX2_addDecimalDigits_69 : decode cX2_addDecimalDigits 69 = .ok (.ldiv, 1) := by decide +kernel
theorem dX2_addDecimalDigits_70 : decode cX2_addDecimalDigits 70 = .ok (.lstore 4, 2) := by decide +kernel
theorem dX2_addDecimalDigits_72 : decode cX2_addDecimalDigits 72 = .ok (.goto (-65), 3) := by decide +kernel
theorem dX2_addDecimalDigits_75 : decode cX2_addDecimalDigits 75 = .ok (.return_, 1) := by decide +kernel
theorem dX3_clear_0 : decode cX3_clear 0 = .ok (.aload_n 0, 1) := by decide +kernel
theorem dX3_clear_1 : decode cX3_clear 1 = .ok (.iconst 0, 1) := by decide +kernel
theorem dX3_clear_2 : decode cX3_clear 2 = .ok (.putfield 28, 3) := by decide +kernel
theorem dX3_clear_5 : decode cX3_clear 5 = .ok (.return_, 1) := by decide +kernel
theorem dX3_make_0 : decode cX3_make 0 = .ok (.aload_n 0, 1) := by decide +kernel
theorem dX3_make_1 : decode cX3_make 1 = .ok (.getfield 21, 3) := by decide +kernel
theorem dX3_make_4 : decode cX3_make 4 = .ok (.invokevirtual 62, 3) := by decide +kernel
theorem dX3_make_7 : decode cX3_make 7 = .ok (.aload_n 0, 1) := by decide +kernel
theorem dX3_make_8 : decode cX3_make 8 = .ok (.iconst 0, 1) := by decide +kernel
theorem dX3_make_9 : decode cX3_make 9 = .ok (.putfield 32, 3) := by decide +kernel
theorem dX3_make_12 : decode cX3_make 12 = .ok (.iconst 0, 1) := by decide +kernel
theorem dX3_make_13 : decode cX3_make 13 = .ok (.istore_n 1, 1) := by decide +kernel
theorem dX3_make_14 : decode cX3_make 14 = .ok (.iconst 0, 1) := by decide +kernel
theorem dX3_make_15 : decode cX3_make 15 = .ok (.istore_n 2, 1) := by decide +kernel
theorem dX3_make_16 : decode cX3_make 16 = .ok (.iload_n 2, 1) := by decide +kernel
theorem dX3_make_17 : decode cX3_make 17 = .ok (.sipush 400, 3) := by decide +kernel
theorem dX3_make_20 : decode cX3_make 20 = .ok (.if_icmp .ge 112, 3) := by decide +kernel
theorem dX3_make_23 : decode cX3_make 23 = .ok (.iload_n 1, 1) := by decide +kernel
theorem dX3_make_24 : decode cX3_make 24 = .ok (.aload_n 0, 1) := by decide +kernel
theorem dX3_make_25 : decode cX3_make 25 = .ok (.getfield 18, 3) := by decide +kernel
theorem dX3_make_28 : decode cX3_make 28 = .ok (.getfield 69, 3) := by decide +kernel
theorem dX3_make_31 : decode cX3_make 31 = .ok (.if_icmp .ge 101, 3) := by decide +kernel
theorem dX3_make_34 : decode cX3_make 34 = .ok (.aload_n 0, 1) := by decide +kernel
theorem dX3_make_35 : decode cX3_make 35 = .ok (.getfield 18, 3) := by decide +kernel
theorem dX3_make_38 : decode cX3_make 38 = .ok (.iload_n 1, 1) := by decide +kernel
theorem dX3_make_39 : decode cX3_make 39 = .ok (.invokevirtual 87, 3) := by decide +kernel
theorem dX3_make_42 : decode cX3_make 42 = .ok (.bipush 37, 2) := by decide +kernel
theorem dX3_make_44 : decode cX3_make 44 = .ok (.if_icmp .ne 41, 3) := by decide +kernel
theorem dX3_make_47 : decode cX3_make 47 = .ok (.aload_n 0, 1) := by decide +kernel
theorem dX3_make_48 : decode cX3_make 48 = .ok (.getfield 38, 3) := by decide +kernel
theorem dX3_make_51 : decode cX3_make 51 = .ok (.aload_n 0, 1) := by decide +kernel
theorem dX3_make_52 : decode cX3_make 52 = .ok (.getfield 18, 3) := by decide +kernel
theorem dX3_make_55 : decode cX3_make 55 = .ok (.iload_n 1, 1) := by decide +kernel
theorem dX3_make_56 : decode cX3_make 56 = .ok (.iconst 1, 1) := by decide +kernel
theorem dX3_make_57 : decode cX3_make 57 = .ok (.iadd, 1) := by decide +kernel
theorem dX3_make_58 : decode cX3_make 58 = .ok (.invokevirtual 91, 3) := by decide +kernel
theorem dX3_make_61 : decode cX3_make 61 = .ok (.ifCond .eq 10, 3) := by decide +kernel
theorem dX3_make_64 : decode cX3_make 64 = .ok (.aload_n 0, 1) := by decide +kernel
theorem dX3_make_65 : decode cX3_make 65 = .ok (.invokevirtual 95, 3) := by decide +kernel
theorem dX3_make_68 : decode cX3_make 68 = .ok (.goto 5, 3) := by decide +kernel
theorem dX3_make_71 : decode cX3_make 71 = .ok (.bipush (-2), 2) := by decide +kernel
theorem dX3_make_73 : decode cX3_make 73 = .ok (.istore_n 3, 1) := by decide +kernel
theorem dX3_make_74 : decode cX3_make 74 = .ok (.aload_n 0, 1) := by decide +kernel
theorem dX3_make_75 : decode cX3_make 75 = .ok (.getfield 38, 3) := by decide +kernel
theorem dX3_make_78 : decode cX3_make 78 = .ok (.getfield 99, 3) := by decide +kernel
theorem dX3_make_81 : decode cX3_make 81 = .ok (.istore_n 1, 1) := by decide +kernel
theorem dX3_make_82 : decode cX3_make 82 = .ok (.goto 31, 3) := by decide +kernel
theorem dX3_make_85 : decode cX3_make 85 = .ok (.aload_n 0, 1) := by decide +kernel
theorem dX3_make_86 : decode cX3_make 86 = .ok (.getfield 21, 3) := by decide +kernel
theorem dX3_make_89 : decode cX3_make 89 = .ok (.aload_n 0, 1) := by decide +kernel
theorem dX3_make_90 : decode cX3_make 90 = .ok (.getfield 18, 3) := by decide +kernel
theorem dX3_make_93 : decode cX3_make 93 = .ok (.iload_n 1, 1) := by decide +kernel
theorem dX3_make_94 : decode cX3_make 94 = .ok (.invokevirtual 87, 3) := by decide +kernel
theorem dX3_make_97 : decode cX3_make 97 = .ok (.invokevirtual 80, 3) := by decide +kernel
theorem dX3_make_100 : decode cX3_make 100 = .ok (.ifCond .eq 7, 3) := by decide +kernel
theorem dX3_make_103 : decode cX3_make 103 = .ok (.iconst 0, 1) := by decide +kernel
theorem dX3_make_104 : decode cX3_make 104 = .ok (.goto 5, 3) := by decide +kernel
theorem dX3_make_107 : decode cX3_make 107 = .ok (.bipush (-5), 2) := by decide +kernel
theorem dX3_make_109 : decode cX3_make 109 = .ok (.istore_n 3, 1) := by decide +kernel
theorem dX3_make_110 : decode cX3_make 110 = .ok (.iinc 1 1, 3) := by decide +kernel
theorem dX3_make_113 : decode cX3_make 113 = .ok (.iload_n 3, 1) := by decide +kernel
theorem dX3_make_114 : decode cX3_make 114 = .ok (.ifCond .eq 12, 3) := by decide +kernel
theorem dX3_make_117 : decode cX3_make 117 = .ok (.aload_n 0, 1) := by decide +kernel
theorem dX3_make_118 : decode cX3_make 118 = .ok (.getfield 21, 3) := by decide +kernel
theorem dX3_make_121 : decode cX3_make 121 = .ok (.invokevirtual 62, 3) := by decide +kernel
theorem dX3_make_124 : decode cX3_make 124 = .ok (.iload_n 3, 1) := by decide +kernel
theorem dX3_make_125 : decode cX3_make 125 = .ok (.ireturn, 1) := by decide +kernel
theorem dX3_make_126 : decode cX3_make 126 = .ok (.iinc 2 1, 3) := by decide +kernel
theorem dX3_make_129 : decode cX3_make 129 = .ok (.goto (-113), 3) := by decide +kernel
theorem dX3_make_132 : decode cX3_make 132 = .ok (.aload_n 0, 1) := by decide +kernel
theorem dX3_make_133 : decode cX3_make 133 = .ok (.getfield 21, 3) := by decide +kernel
theorem dX3_make_136 : decode cX3_make 136 = .ok (.getfield 69, 3) := by decide +kernel
theorem dX3_make_139 : decode cX3_make 139 = .ok (.ireturn, 1) := by decide +kernel
theorem dX1_read_0 : decode cX1_read 0 = .ok (.aload_n 0, 1) := by decide +kernel
theorem dX1_read_1 : decode cX1_read 1 = .ok (.aload_n 1, 1) := by decide +kernel
theorem dX1_read_2 : decode cX1_read 2 = .ok (.iload_n 2, 1) := by decide +kernel
theorem dX1_read_3 : decode cX1_read 3 = .ok (.invokevirtual 15, 3) := by decide +kernel
theorem dX1_read_6 : decode cX1_read 6 = .ok (.istore_n 3, 1) := by decide +kernel
theorem dX1_read_7 : decode cX1_read 7 = .ok (.aload_n 0, 1) := by decide +kernel
theorem dX1_read_8 : decode cX1_read 8 = .ok (.aload_n 1, 1) := by decide +kernel
theorem dX1_read_9 : decode cX1_read 9 = .ok (.iload_n 3, 1) := by decide +kernel
theorem dX1_read_10 : decode cX1_read 10 = .ok (.invokevirtual 19, 3) := by decide +kernel
theorem dX1_read_13 : decode cX1_read 13 = .ok (.istore 4, 2) := by decide +kernel
theorem dX1_read_15 : decode cX1_read 15 = .ok (.aload_n 0, 1) := by decide +kernel
theorem dX1_read_16 : decode cX1_read 16 = .ok (.aload_n 1, 1) := by decide +kernel
theorem dX1_read_17 : decode cX1_read 17 = .ok (.iload 4, 2) := by decide +kernel
theorem dX1_read_19 : decode cX1_read 19 = .ok (.invokevirtual 22, 3) := by decide +kernel
theorem dX1_read_22 : decode cX1_read 22 = .ok (.putfield 9, 3) := by decide +kernel
theorem dX1_read_25 : decode cX1_read 25 = .ok (.aload_n 0, 1) := by decide +kernel
theorem dX1_read_26 : decode cX1_read 26 = .ok (.iload 4, 2) := by decide +kernel
theorem dX1_read_28 : decode cX1_read 28 = .ok (.iconst 1, 1) := by decide +kernel
theorem dX1_read_29 : decode cX1_read 29 = .ok (.iadd, 1) := by decide +kernel
theorem dX1_read_30 : decode cX1_read 30 = .ok (.putfield 28, 3) := by decide +kernel
theorem dX1_read_33 : decode cX1_read 33 = .ok (.aload_n 0, 1) := by decide +kernel
theorem dX1_read_34 : decode cX1_read 34 = .ok (.getfield 9, 3) := by decide +kernel
theorem dX1_read_37 : decode cX1_read 37 = .ok (.invokestatic 31, 3) := by decide +kernel
theorem dX1_read_40 : decode cX1_read 40 = .ok (.ireturn, 1) := by decide +kernel
theorem dX1_readFlags_0 : decode cX1_readFlags 0 = .ok (.aload_n 0, 1) := by decide +kernel
theorem dX1_readFlags_1 : decode cX1_readFlags 1 = .ok (.iconst 0, 1) := by decide +kernel
theorem dX1_readFlags_2 : decode cX1_readFlags 2 = .ok (.putfield 42, 3) := by decide +kernel
theorem dX1_readFlags_5 : decode cX1_readFlags 5 = .ok (.aload_n 0, 1) := by decide +kernel
theorem dX1_readFlags_6 : decode cX1_readFlags 6 = .ok (.iconst 0, 1) := by decide +kernel
theorem dX1_readFlags_7 : decode cX1_readFlags 7 = .ok (.putfield 45, 3) := by decide +kernel
theorem dX1_readFlags_10 : decode cX1_readFlags 10 = .ok (.aload_n 0, 1) := by decide +kernel
theorem dX1_readFlags_11 : decode cX1_readFlags 11 = .ok (.iconst 0, 1) := by decide +kernel
theorem dX1_readFlags_12 : decode cX1_readFlags 12 = .ok (.putfield 35, 3) := by decide +kernel
theorem dX1_readFlags_15 : decode cX1_readFlags 15 = .ok (.aload_n 0, 1) := by decide +kernel
theorem dX1_readFlags_16 : decode cX1_readFlags 16 = .ok (.iconst 0, 1) := by decide +kernel
theorem dX1_readFlags_17 : decode cX1_readFlags 17 = .ok (.putfield 39, 3) := by decide +kernel
theorem dX1_readFlags_20 : decode cX1_readFlags 20 = .ok (.iload_n 2, 1) := by decide +kernel
theorem dX1_readFlags_21 : decode cX1_readFlags 21 = .ok (.istore_n 3, 1) := by decide +kernel
theorem dX1_readFlags_22 : decode cX1_readFlags 22 = .ok (.iload_n 3, 1) := by decide +kernel
theorem dX1_readFlags_23 : decode cX1_readFlags 23 = .ok (.aload_n 1, 1) := by decide +kernel
theorem dX1_readFlags_24 : decode cX1_readFlags 24 = .ok (.getfield 48, 3) := by decide +kernel
theorem dX1_readFlags_27 : decode cX1_readFlags 27 = .ok (.if_icmp .ge 21, 3) := by decide +kernel
theorem dX1_readFlags_30 : decode cX1_readFlags 30 = .ok (.aload_n 0, 1) := by decide +kernel
theorem dX1_readFlags_31 : decode cX1_readFlags 31 = .ok (.aload_n 1, 1) := by decide +kernel
theorem dX1_readFlags_32 : decode cX1_readFlags 32 = .ok (.iload_n 3, 1) := by decide +kernel
theorem dX1_readFlags_33 : decode cX1_readFlags 33 = .ok (.invokevirtual 22, 3) := by decide +kernel
theorem dX1_readFlags_36 : decode cX1_readFlags 36 = .ok (.invokevirtual 51, 3) := by decide +kernel
theorem dX1_readFlags_39 : decode cX1_readFlags 39 = .ok (.ifCond .eq 9, 3) := by decide +kernel
theorem dX1_readFlags_42 : decode cX1_readFlags 42 = .ok (.iinc 3 1, 3) := by decide +kernel
theorem dX1_readFlags_45 : decode cX1_readFlags 45 = .ok (.goto (-23), 3) := by decide +kernel
theorem dX1_readFlags_48 : decode cX1_readFlags 48 = .ok (.iload_n 3, 1) := by decide +kernel
theorem dX1_readFlags_49 : decode cX1_readFlags 49 = .ok (.ireturn, 1) := by decide +kernel
theorem dX1_setFlag_0 : decode cX1_setFlag 0 = .ok (.iload_n 1, 1) := by decide +kernel
theorem dX1_setFlag_1 : decode cX1_setFlag 1 = .ok (.lookupswitch 71 #[(32, 64), (43, 57), (45, 43), (48, 50)], 43) := by decide +kernel
theorem dX1_setFlag_44 : decode cX1_setFlag 44 = .ok (.aload_n 0, 1) := by decide +kernel
theorem dX1_setFlag_45 : decode cX1_setFlag 45 = .ok (.iconst 1, 1) := by decide +kernel
theorem dX1_setFlag_46 : decode cX1_setFlag 46 = .ok (.putfield 42, 3) := by decide +kernel
theorem dX1_setFlag_49 : decode cX1_setFlag 49 = .ok (.iconst 1, 1) := by decide +kernel
theorem dX1_setFlag_50 : decode cX1_setFlag 50 = .ok (.ireturn, 1) := by decide +kernel
theorem dX1_setFlag_51 : decode cX1_setFlag 51 = .ok (.aload_n 0, 1) := by decide +kernel
theorem dX1_setFlag_52 : decode cX1_setFlag 52 = .ok (.iconst 1, 1) := by decide +kernel
theorem dX1_setFlag_53 : decode cX1_setFlag 53 = .ok (.putfield 45, 3) := by decide +kernel
theorem dX1_setFlag_56 : decode cX1_setFlag 56 = .ok (.iconst 1, 1) := by decide +kernel
theorem dX1_setFlag_57 : decode cX1_setFlag 57 = .ok (.ireturn, 1) := by decide +kernel
theorem dX1_setFlag_58 : decode cX1_setFlag 58 = .ok (.aload_n 0, 1) := by decide +kernel
theorem dX1_setFlag_59 : decode cX1_setFlag 59 = .ok (.iconst 1, 1) := by decide +kernel
theorem dX1_setFlag_60 : decode cX1_setFlag 60 = .ok (.putfield 35, 3) := by decide +kernel
theorem dX1_setFlag_63 : decode cX1_setFlag 63 = .ok (.iconst 1, 1) := by decide +kernel
theorem dX1_setFlag_64 : decode cX1_setFlag 64 = .ok (.ireturn, 1) := by decide +kernel
theorem dX1_setFlag_65 : decode cX1_setFlag 65 = .ok (.aload_n 0, 1) := by decide +kernel
theorem dX1_setFlag_66 : decode cX1_setFlag 66 = .ok (.iconst 1, 1) := by decide +kernel
theorem dX1_setFlag_67 : decode cX1_setFlag 67 = .ok (.putfield 39, 3) := by decide +kernel
theorem dX1_setFlag_70 : decode cX1_setFlag 70 = .ok (.iconst 1, 1) := by decide +kernel
theorem dX1_setFlag_71 : decode cX1_setFlag 71 = .ok (.ireturn, 1) := by decide +kernel
theorem dX1_setFlag_72 : decode cX1_setFlag 72 = .ok (.iconst 0, 1) := by decide +kernel
theorem dX1_setFlag_73 : decode cX1_setFlag 73 = .ok (.ireturn, 1) := by decide +kernel
theorem dX1_readWidth_0 : decode cX1_readWidth 0 = .ok (.aload_n 0, 1) := by decide +kernel
theorem dX1_readWidth_1 : decode cX1_readWidth 1 = .ok (.iconst 0, 1) := by decide +kernel
theorem dX1_readWidth_2 : decode cX1_readWidth 2 = .ok (.putfield 54, 3) := by decide +kernel
theorem dX1_readWidth_5 : decode cX1_readWidth 5 = .ok (.iload_n 2, 1) := by decide +kernel
theorem dX1_readWidth_6 : decode cX1_readWidth 6 = .ok (.istore_n 3, 1) := by decide +kernel
theorem dX1_readWidth_7 : decode cX1_readWidth 7 = .ok (.iload_n 3, 1) := by decide +kernel
theorem dX1_readWidth_8 : decode cX1_readWidth 8 = .ok (.aload_n 1, 1) := by decide +kernel
theorem dX1_readWidth_9 : decode cX1_readWidth 9 = .ok (.getfield 48, 3) := by decide +kernel
theorem dX1_readWidth_12 : decode cX1_readWidth 12 = .ok (.if_icmp .ge 45, 3) := by decide +kernel
theorem dX1_readWidth_15 : decode cX1_readWidth 15 = .ok (.aload_n 1, 1) := by decide +kernel
theorem dX1_readWidth_16 : decode cX1_readWidth 16 = .ok (.iload_n 3, 1) := by decide +kernel
theorem dX1_readWidth_17 : decode cX1_readWidth 17 = .ok (.invokevirtual 22, 3) := by decide +kernel
theorem dX1_readWidth_20 : decode cX1_readWidth 20 = .ok (.invokestatic 57, 3) := by decide +kernel
theorem dX1_readWidth_23 : decode cX1_readWidth 23 = .ok (.ifCond .eq 34, 3) := by decide +kernel
theorem dX1_readWidth_26 : decode cX1_readWidth 26 = .ok (.aload_n 0, 1) := by decide +kernel
theorem dX1_readWidth_27 : decode cX1_readWidth 27 = .ok (.ldc 60, 2) := by decide +kernel
theorem dX1_readWidth_29 : decode cX1_readWidth 29 = .ok (.aload_n 0, 1) := by decide +kernel
theorem dX1_readWidth_30 : decode cX1_readWidth 30 = .ok (.getfield 54, 3) := by decide +kernel
theorem dX1_readWidth_33 : decode cX1_readWidth 33 = .ok (.bipush 10, 2) := by decide +kernel
theorem dX1_readWidth_35 : decode cX1_readWidth 35 = .ok (.imul, 1) := by decide +kernel
theorem dX1_readWidth_36 : decode cX1_readWidth 36 = .ok (.aload_n 1, 1) := by decide +kernel
theorem dX1_readWidth_37 : decode cX1_readWidth 37 = .ok (.iload_n 3, 1) := by decide +kernel
theorem dX1_readWidth_38 : decode cX1_readWidth 38 = .ok (.invokevirtual 22, 3) := by decide +kernel
theorem dX1_readWidth_41 : decode cX1_readWidth 41 = .ok (.iadd, 1) := by decide +kernel
theorem dX1_readWidth_42 : decode cX1_readWidth 42 = .ok (.bipush 48, 2) := by decide +kernel
theorem dX1_readWidth_44 : decode cX1_readWidth 44 = .ok (.isub, 1) := by decide +kernel
theorem dX1_readWidth_45 : decode cX1_readWidth 45 = .ok (.invokestatic 61, 3) := by decide +kernel
theorem dX1_readWidth_48 : decode cX1_readWidth 48 = .ok (.putfield 54, 3) := by decide +kernel
theorem dX1_readWidth_51 : decode cX1_readWidth 51 = .ok (.iinc 3 1, 3) := by decide +kernel
theorem dX1_readWidth_54 : decode cX1_readWidth 54 = .ok (.goto (-47), 3) := by decide +kernel
theorem dX1_readWidth_57 : decode cX1_readWidth 57 = .ok (.iload_n 3, 1) := by decide +kernel
theorem dX1_readWidth_58 : decode cX1_readWidth 58 = .ok (.ireturn, 1) := by decide +kernel
theorem dX3_isDecimalDigit_0 : decode cX3_isDecimalDigit 0 = .ok (.iload_n 0, 1) := by decide +kernel
theorem dX3_isDecimalDigit_1 : decode cX3_isDecimalDigit 1 = .ok (.bipush 48, 2) := by decide +kernel
theorem dX3_isDecimalDigit_3 : decode cX3_isDecimalDigit 3 = .ok (.if_icmp .lt 13, 3) := by decide +kernel
theorem dX3_isDecimalDigit_6 : decode cX3_isDecimalDigit 6 = .ok (.iload_n 0, 1) := by decide +kernel
theorem dX3_isDecimalDigit_7 : decode cX3_isDecimalDigit 7 = .ok (.bipush 57, 2) := by decide +kernel
theorem dX3_isDecimalDigit_9 : decode cX3_isDecimalDigit 9 = .ok (.if_icmp .gt 7, 3) := by decide +kernel
theorem dX3_isDecimalDigit_12 : decode cX3_isDecimalDigit 12 = .ok (.iconst 1, 1) := by decide +kernel
theorem dX3_isDecimalDigit_13 : decode cX3_isDecimalDigit 13 = .ok (.goto 4, 3) := by decide +kernel
theorem dX3_isDecimalDigit_16 : decode cX3_isDecimalDigit 16 = .ok (.iconst 0, 1) := by decide +kernel
theorem dX3_isDecimalDigit_17 : decode cX3_isDecimalDigit 17 = .ok (.ireturn, 1) := by decide +kernel
theorem dX1_isKind_0 : decode cX1_isKind 0 = .ok (.iload_n 0, 1) := by decide +kernel
theorem dX1_isKind_1 : decode cX1_isKind 1 = .ok (.lookupswitch 69 #[(37, 67), (88, 67), (99, 67), (100, 67), (111, 67), (115, 67), (120, 67)], 67) := by decide +kernel
theorem dX1_isKind_68 : decode cX1_isKind 68 = .ok (.iconst 1, 1) := by decide +kernel
theorem dX1_isKind_69 : decode cX1_isKind 69 = .ok (.ireturn, 1) := by decide +kernel
theorem dX1_isKind_70 : decode cX1_isKind 70 = .ok (.iconst 0, 1) := by decide +kernel
theorem dX1_isKind_71 : decode cX1_isKind 71 = .ok (.ireturn, 1) := by decide +kernel
theorem dX3_fillPlace_0 : decode cX3_fillPlace 0 = .ok (.aload_n 0, 1) := by decide +kernel
theorem dX3_fillPlace_1 : decode cX3_fillPlace 1 = .ok (.getfield 38, 3) := by decide +kernel
theorem dX3_fillPlace_4 : decode cX3_fillPlace 4 = .ok (.getfield 102, 3) := by decide +kernel
theorem dX3_fillPlace_7 : decode cX3_fillPlace 7 = .ok (.bipush 37, 2) := by decide +kernel
theorem dX3_fillPlace_9 : decode cX3_fillPlace 9 = .ok (.if_icmp .ne 22, 3) := by decide +kernel
theorem dX3_fillPlace_12 : decode cX3_fillPlace 12 = .ok (.aload_n 0, 1) := by decide +kernel
theorem dX3_fillPlace_13 : decode cX3_fillPlace 13 = .ok (.getfield 21, 3) := by decide +kernel
theorem dX3_fillPlace_16 : decode cX3_fillPlace 16 = .ok (.bipush 37, 2) := by decide +kernel
theorem dX3_fillPlace_18 : decode cX3_fillPlace 18 = .ok (.invokevirtual 80, 3) := by decide +kernel
theorem dX3_fillPlace_21 : decode cX3_fillPlace 21 = .ok (.ifCond .eq 7, 3) := by decide +kernel
theorem dX3_fillPlace_24 : decode cX3_fillPlace 24 = .ok (.iconst 0, 1) := by decide +kernel
theorem dX3_fillPlace_25 : decode cX3_fillPlace 25 = .ok (.goto 5, 3) := by decide +kernel
theorem dX3_fillPlace_28 : decode cX3_fillPlace 28 = .ok (.bipush (-5), 2) := by decide +kernel
theorem dX3_fillPlace_30 : decode cX3_fillPlace 30 = .ok (.ireturn, 1) := by decide +kernel
theorem dX3_fillPlace_31 : decode cX3_fillPlace 31 = .ok (.aload_n 0, 1) := by decide +kernel
theorem dX3_fillPlace_32 : decode cX3_fillPlace 32 = .ok (.getfield 32, 3) := by decide +kernel
theorem dX3_fillPlace_35 : decode cX3_fillPlace 35 = .ok (.ifCond .lt 26, 3) := by decide +kernel
theorem dX3_fillPlace_38 : decode cX3_fillPlace 38 = .ok (.aload_n 0, 1) := by decide +kernel
theorem dX3_fillPlace_39 : decode cX3_fillPlace 39 = .ok (.getfield 32, 3) := by decide +kernel
theorem dX3_fillPlace_42 : decode cX3_fillPlace 42 = .ok (.aload_n 0, 1) := by decide +kernel
theorem dX3_fillPlace_43 : decode cX3_fillPlace 43 = .ok (.getfield 28, 3) := by decide +kernel
theorem dX3_fillPlace_46 : decode cX3_fillPlace 46 = .ok (.if_icmp .ge 15, 3) := by decide +kernel
theorem dX3_fillPlace_49 : decode cX3_fillPlace 49 = .ok (.aload_n 0, 1) := by decide +kernel
theorem dX3_fillPlace_50 : decode cX3_fillPlace 50 = .ok (.getfield 32, 3) := by decide +kernel
theorem dX3_fillPlace_53 : decode cX3_fillPlace 53 = .ok (.aload_n 0, 1) := by decide +kernel
theorem dX3_fillPlace_54 : decode cX3_fillPlace 54 = .ok (.getfield 24, 3) := by decide +kernel
theorem dX3_fillPlace_57 : decode cX3_fillPlace 57 = .ok (.arraylength, 1) := by decide +kernel
theorem dX3_fillPlace_58 : decode cX3_fillPlace 58 = .ok (.if_icmp .lt 6, 3) := by decide +kernel
theorem dX3_fillPlace_61 : decode cX3_fillPlace 61 = .ok (.bipush (-3), 2) := by decide +kernel
theorem dX3_fillPlace_63 : decode cX3_fillPlace 63 = .ok (.ireturn, 1) := by decide +kernel
theorem dX3_fillPlace_64 : decode cX3_fillPlace 64 = .ok (.aload_n 0, 1) := by decide +kernel
theorem dX3_fillPlace_65 : decode cX3_fillPlace 65 = .ok (.getfield 24, 3) := by decide +kernel
theorem dX3_fillPlace_68 : decode cX3_fillPlace 68 = .ok (.aload_n 0, 1) := by decide +kernel
theorem dX3_fillPlace_69 : decode cX3_fillPlace 69 = .ok (.getfield 32, 3) := by decide +kernel
theorem dX3_fillPlace_72 : decode cX3_fillPlace 72 = .ok (.aaload, 1) := by decide +kernel
theorem dX3_fillPlace_73 : decode cX3_fillPlace 73 = .ok (.astore_n 1, 1) := by decide +kernel
theorem dX3_fillPlace_74 : decode cX3_fillPlace 74 = .ok (.aload_n 0, 1) := by decide +kernel
theorem dX3_fillPlace_75 : decode cX3_fillPlace 75 = .ok (.dup, 1) := by decide +kernel
theorem dX3_fillPlace_76 : decode cX3_fillPlace 76 = .ok (.getfield 32, 3) := by decide +kernel
theorem dX3_fillPlace_79 : decode cX3_fillPlace 79 = .ok (.iconst 1, 1) := by decide +kernel
theorem dX3_fillPlace_80 : decode cX3_fillPlace 80 = .ok (.iadd, 1) := by decide +kernel
theorem dX3_fillPlace_81 : decode cX3_fillPlace 81 = .ok (.putfield 32, 3) := by decide +kernel
theorem dX3_fillPlace_84 : decode cX3_fillPlace 84 = .ok (.aload_n 0, 1) := by decide +kernel
theorem dX3_fillPlace_85 : decode cX3_fillPlace 85 = .ok (.getfield 38, 3) := by decide +kernel
theorem dX3_fillPlace_88 : decode cX3_fillPlace 88 = .ok (.getfield 102, 3) := by decide +kernel
theorem dX3_fillPlace_91 : decode cX3_fillPlace 91 = .ok (.bipush 115, 2) := by decide +kernel
theorem dX3_fillPlace_93 : decode cX3_fillPlace 93 = .ok (.if_icmp .ne 11, 3) := by decide +kernel
theorem dX3_fillPlace_96 : decode cX3_fillPlace 96 = .ok (.aload_n 0, 1) := by decide +kernel
theorem dX3_fillPlace_97 : decode cX3_fillPlace 97 = .ok (.iconst 0, 1) := by decide +kernel
theorem dX3_fillPlace_98 : decode cX3_fillPlace 98 = .ok (.aload_n 1, 1) := by decide +kernel
theorem dX3_fillPlace_99 : decode cX3_fillPlace 99 = .ok (.iconst 0, 1) := by decide +kernel
theorem dX3_fillPlace_100 : decode cX3_fillPlace 100 = .ok (.invokevirtual 105, 3) := by decide +kernel
theorem dX3_fillPlace_103 : decode cX3_fillPlace 103 = .ok (.ireturn, 1) := by decide +kernel
theorem dX3_fillPlace_104 : decode cX3_fillPlace 104 = .ok (.aload_n 0, 1) := by decide +kernel
theorem dX3_fillPlace_105 : decode cX3_fillPlace 105 = .ok (.getfield 45, 3) := by decide +kernel
theorem dX3_fillPlace_108 : decode cX3_fillPlace 108 = .ok (.aload_n 1, 1) := by decide +kernel
theorem dX3_fillPlace_109 : decode cX3_fillPlace 109 = .ok (.invokevirtual 109, 3) := by decide +kernel
theorem dX3_fillPlace_112 : decode cX3_fillPlace 112 = .ok (.ifCond .ne 6, 3) := by decide +kernel
theorem dX3_fillPlace_115 : decode cX3_fillPlace 115 = .ok (.bipush (-4), 2) := by decide +kernel
theorem dX3_fillPlace_117 : decode cX3_fillPlace 117 = .ok (.ireturn, 1) := by decide +kernel
theorem dX3_fillPlace_118 : decode cX3_fillPlace 118 = .ok (.aload_n 0, 1) := by decide +kernel
theorem dX3_fillPlace_119 : decode cX3_fillPlace 119 = .ok (.aload_n 0, 1) := by decide +kernel
theorem dX3_fillPlace_120 : decode cX3_fillPlace 120 = .ok (.getfield 45, 3) := by decide +kernel
theorem dX3_fillPlace_123 : decode cX3_fillPlace 123 = .ok (.getfield 112, 3) := by decide +kernel
theorem dX3_fillPlace_126 : decode cX3_fillPlace 126 = .ok (.invokevirtual 116, 3) := by decide +kernel
theorem dX3_fillPlace_129 : decode cX3_fillPlace 129 = .ok (.ireturn, 1) := by decide +kernel
theorem dX3_addPadded_0 : decode cX3_addPadded 0 = .ok (.aload_n 2, 1) := by decide +kernel
theorem dX3_addPadded_1 : decode cX3_addPadded 1 = .ok (.getfield 69, 3) := by decide +kernel
theorem dX3_addPadded_4 : decode cX3_addPadded 4 = .ok (.iload_n 1, 1) := by decide +kernel
theorem dX3_addPadded_5 : decode cX3_addPadded 5 = .ok (.ifCond .ne 7, 3) := by decide +kernel
theorem dX3_addPadded_8 : decode cX3_addPadded 8 = .ok (.iconst 0, 1) := by decide +kernel
theorem dX3_addPadded_9 : decode cX3_addPadded 9 = .ok (.goto 4, 3) := by decide +kernel
theorem dX3_addPadded_12 : decode cX3_addPadded 12 = .ok (.iconst 1, 1) := by decide +kernel
theorem dX3_addPadded_13 : decode cX3_addPadded 13 = .ok (.iadd, 1) := by decide +kernel
theorem dX3_addPadded_14 : decode cX3_addPadded 14 = .ok (.istore 4, 2) := by decide +kernel
theorem dX3_addPadded_16 : decode cX3_addPadded 16 = .ok (.iload 4, 2) := by decide +kernel
theorem dX3_addPadded_18 : decode cX3_addPadded 18 = .ok (.aload_n 0, 1) := by decide +kernel
theorem dX3_addPadded_19 : decode cX3_addPadded 19 = .ok (.getfield 38, 3) := by decide +kernel
theorem dX3_addPadded_22 : decode cX3_addPadded 22 = .ok (.getfield 131, 3) := by decide +kernel
theorem dX3_addPadded_25 : decode cX3_addPadded 25 = .ok (.invokestatic 134, 3) := by decide +kernel
theorem dX3_addPadded_28 : decode cX3_addPadded 28 = .ok (.istore 5, 2) := by decide +kernel
theorem dX3_addPadded_30 : decode cX3_addPadded 30 = .ok (.aload_n 0, 1) := by decide +kernel
theorem dX3_addPadded_31 : decode cX3_addPadded 31 = .ok (.getfield 21, 3) := by decide +kernel
theorem dX3_addPadded_34 : decode cX3_addPadded 34 = .ok (.iload 5, 2) := by decide +kernel
theorem dX3_addPadded_36 : decode cX3_addPadded 36 = .ok (.invokevirtual 52, 3) := by decide +kernel
theorem dX3_addPadded_39 : decode cX3_addPadded 39 = .ok (.ifCond .ne 6, 3) := by decide +kernel
theorem dX3_addPadded_42 : decode cX3_addPadded 42 = .ok (.bipush (-5), 2) := by decide +kernel
theorem dX3_addPadded_44 : decode cX3_addPadded 44 = .ok (.ireturn, 1) := by decide +kernel
theorem dX3_addPadded_45 : decode cX3_addPadded 45 = .ok (.iload 5, 2) := by decide +kernel
theorem dX3_addPadded_47 : decode cX3_addPadded 47 = .ok (.iload 4, 2) := by decide +kernel
theorem dX3_addPadded_49 : decode cX3_addPadded 49 = .ok (.isub, 1) := by decide +kernel
theorem dX3_addPadded_50 : decode cX3_addPadded 50 = .ok (.istore 6, 2) := by decide +kernel
theorem dX3_addPadded_52 : decode cX3_addPadded 52 = .ok (.aload_n 0, 1) := by decide +kernel
theorem dX3_addPadded_53 : decode cX3_addPadded 53 = .ok (.getfield 38, 3) := by decide +kernel
theorem dX3_addPadded_56 : decode cX3_addPadded 56 = .ok (.getfield 140, 3) := by decide +kernel
theorem dX3_addPadded_59 : decode cX3_addPadded 59 = .ok (.ifCond .ne 18, 3) := by decide +kernel
theorem dX3_addPadded_62 : decode cX3_addPadded 62 = .ok (.iload_n 3, 1) := by decide +kernel
theorem dX3_addPadded_63 : decode cX3_addPadded 63 = .ok (.ifCond .ne 14, 3) := by decide +kernel
theorem dX3_addPadded_66 : decode cX3_addPadded 66 = .ok (.aload_n 0, 1) := by decide +kernel
theorem dX3_addPadded_67 : decode cX3_addPadded 67 = .ok (.getfield 21, 3) := by decide +kernel
theorem dX3_addPadded_70 : decode cX3_addPadded 70 = .ok (.bipush 32, 2) := by decide +kernel
theorem dX3_addPadded_72 : decode cX3_addPadded 72 = .ok (.iload 6, 2) := by decide +kernel
theorem dX3_addPadded_74 : decode cX3_addPadded 74 = .ok (.invokevirtual 143, 3) := by decide +kernel
theorem dX3_addPadded_77 : decode cX3_addPadded 77 = .ok (.iload_n 1, 1) := by decide +kernel
theorem dX3_addPadded_78 : decode cX3_addPadded 78 = .ok (.ifCond .eq 12, 3) := by decide +kernel
theorem dX3_addPadded_81 : decode cX3_addPadded 81 = .ok (.aload_n 0, 1) := by decide +kernel
theorem dX3_addPadded_82 : decode cX3_addPadded 82 = .ok (.getfield 21, 3) := by decide +kernel
theorem dX3_addPadded_85 : decode cX3_addPadded 85 = .ok (.iload_n 1, 1) := by decide +kernel
theorem dX3_addPadded_86 : decode cX3_addPadded 86 = .ok (.invokevirtual 80, 3) := by decide +kernel
theorem dX3_addPadded_89 : decode cX3_addPadded 89 = .ok (.pop, 1) := by decide +kernel
theorem dX3_addPadded_90 : decode cX3_addPadded 90 = .ok (.aload_n 0, 1) := by decide +kernel
theorem dX3_addPadded_91 : decode cX3_addPadded 91 = .ok (.getfield 38, 3) := by decide +kernel
theorem dX3_addPadded_94 : decode cX3_addPadded 94 = .ok (.getfield 140, 3) := by decide +kernel
theorem dX3_addPadded_97 : decode cX3_addPadded 97 = .ok (.ifCond .ne 18, 3) := by decide +kernel
theorem dX3_addPadded_100 : decode cX3_addPadded 100 = .ok (.iload_n 3, 1) := by decide +kernel
theorem dX3_addPadded_101 : decode cX3_addPadded 101 = .ok (.ifCond .eq 14, 3) := by decide +kernel
theorem dX3_addPadded_104 : decode cX3_addPadded 104 = .ok (.aload_n 0, 1) := by decide +kernel
theorem dX3_addPadded_105 : decode cX3_addPadded 105 = .ok (.getfield 21, 3) := by decide +kernel
theorem dX3_addPadded_108 : decode cX3_addPadded 108 = .ok (.bipush 48, 2) := by decide +kernel
theorem dX3_addPadded_110 : decode cX3_addPadded 110 = .ok (.iload 6, 2) := by decide +kernel
theorem dX3_addPadded_112 : decode cX3_addPadded 112 = .ok (.invokevirtual 143, 3) := by decide +kernel
theorem dX3_addPadded_115 : decode cX3_addPadded 115 = .ok (.aload_n 0, 1) := by decide +kernel
theorem dX3_addPadded_116 : decode cX3_addPadded 116 = .ok (.getfield 21, 3) := by decide +kernel
theorem dX3_addPadded_119 : decode cX3_addPadded 119 = .ok (.aload_n 2, 1) := by decide +kernel
theorem dX3_addPadded_120 : decode cX3_addPadded 120 = .ok (.invokevirtual 65, 3) := by decide +kernel
theorem dX3_addPadded_123 : decode cX3_addPadded 123 = .ok (.aload_n 0, 1) := by decide +kernel
theorem dX3_addPadded_124 : decode cX3_addPadded 124 = .ok (.getfield 38, 3) := by decide +kernel
theorem dX3_addPadded_127 : decode cX3_addPadded 127 = .ok (.getfield 140, 3) := by decide +kernel
theorem dX3_addPadded_130 : decode cX3_addPadded 130 = .ok (.ifCond .eq 14, 3) := by decide +kernel
theorem dX3_addPadded_133 : decode cX3_addPadded 133 = .ok (.aload_n 0, 1) := by decide +kernel
theorem dX3_addPadded_134 : decode cX3_addPadded 134 = .ok (.getfield 21, 3) := by decide +kernel
theorem dX3_addPadded_137 : decode cX3_addPadded 137 = .ok (.bipush 32, 2) := by decide +kernel
theorem dX3_addPadded_139 : decode cX3_addPadded 139 = .ok (.iload 6, 2) := by decide +kernel
theorem dX3_addPadded_141 : decode cX3_addPadded 141 = .ok (.invokevirtual 143, 3) := by decide +kernel
theorem dX3_addPadded_144 : decode cX3_addPadded 144 = .ok (.iconst 0, 1) := by decide +kernel
theorem dX3_addPadded_145 : decode cX3_addPadded 145 = .ok (.ireturn, 1) := by decide +kernel
theorem dX2_addMany_0 : decode cX2_addMany 0 = .ok (.iconst 0, 1) := by decide +kernel
theorem dX2_addMany_1 : decode cX2_addMany 1 = .ok (.istore_n 3, 1) := by decide +kernel
theorem dX2_addMany_2 : decode cX2_addMany 2 = .ok (.iload_n 3, 1) := by decide +kernel
theorem dX2_addMany_3 : decode cX2_addMany 3 = .ok (.iload_n 2, 1) := by decide +kernel
theorem dX2_addMany_4 : decode cX2_addMany 4 = .ok (.if_icmp .ge 15, 3) := by decide +kernel
theorem dX2_addMany_7 : decode cX2_addMany 7 = .ok (.aload_n 0, 1) := by decide +kernel
theorem dX2_addMany_8 : decode cX2_addMany 8 = .ok (.iload_n 1, 1) := by decide +kernel
theorem dX2_addMany_9 : decode cX2_addMany 9 = .ok (.invokevirtual 19, 3) := by decide +kernel
theorem dX2_addMany_12 : decode cX2_addMany 12 = .ok (.pop, 1) := by decide +kernel
theorem dX2_addMany_13 : decode cX2_addMany 13 = .ok (.iinc 3 1, 3) := by decide +kernel
theorem dX2_addMany_16 : decode cX2_addMany 16 = .ok (.goto (-14), 3) := by decide +kernel
theorem dX2_addMany_19 : decode cX2_addMany 19 = .ok (.return_, 1) := by decide +kernel
theorem dX0_read_0 : decode cX0_read 0 = .ok (.aload_n 1, 1) := by decide +kernel
theorem dX0_read_1 : decode cX0_read 1 = .ok (.iconst 0, 1) := by decide +kernel
theorem dX0_read_2 : decode cX0_read 2 = .ok (.invokevirtual 15, 3) := by decide +kernel
theorem dX0_read_5 : decode cX0_read 5 = .ok (.bipush 45, 2) := by decide +kernel
theorem dX0_read_7 : decode cX0_read 7 = .ok (.if_icmp .ne 7, 3) := by decide +kernel
theorem dX0_read_10 : decode cX0_read 10 = .ok (.iconst 1, 1) := by decide +kernel
theorem dX0_read_11 : decode cX0_read 11 = .ok (.goto 4, 3) := by decide +kernel
theorem dX0_read_14 : decode cX0_read 14 = .ok (.iconst 0, 1) := by decide +kernel
theorem dX0_read_15 : decode cX0_read 15 = .ok (.istore_n 2, 1) := by decide +kernel
theorem dX0_read_16 : decode cX0_read 16 = .ok (.iload_n 2, 1) := by decide +kernel
theorem dX0_read_17 : decode cX0_read 17 = .ok (.ifCond .ne 13, 3) := by decide +kernel
theorem dX0_read_20 : decode cX0_read 20 = .ok (.aload_n 1, 1) := by decide +kernel
theorem dX0_read_21 : decode cX0_read 21 = .ok (.iconst 0, 1) := by decide +kernel
theorem dX0_read_22 : decode cX0_read 22 = .ok (.invokevirtual 15, 3) := by decide +kernel
theorem dX0_read_25 : decode cX0_read 25 = .ok (.bipush 43, 2) := by decide +kernel
theorem dX0_read_27 : decode cX0_read 27 = .ok (.if_icmp .ne 7, 3) := by decide +kernel
theorem dX0_read_30 : decode cX0_read 30 = .ok (.iconst 1, 1) := by decide +kernel
theorem dX0_read_31 : decode cX0_read 31 = .ok (.goto 4, 3) := by decide +kernel
theorem dX0_read_34 : decode cX0_read 34 = .ok (.iconst 0, 1) := by decide +kernel
theorem dX0_read_35 : decode cX0_read 35 = .ok (.istore_n 3, 1) := by decide +kernel
theorem dX0_read_36 : decode cX0_read 36 = .ok (.aload_n 1, 1) := by decide +kernel
theorem dX0_read_37 : decode cX0_read 37 = .ok (.iload_n 3, 1) := by decide +kernel
theorem dX0_read_38 : decode cX0_read 38 = .ok (.invokevirtual 15, 3) := by decide +kernel
theorem dX0_read_41 : decode cX0_read 41 = .ok (.bipush 48, 2) := by decide +kernel
theorem dX0_read_43 : decode cX0_read 43 = .ok (.if_icmp .ne 25, 3) := by decide +kernel
theorem dX0_read_46 : decode cX0_read 46 = .ok (.aload_n 1, 1) := by decide +kernel
theorem dX0_read_47 : decode cX0_read 47 = .ok (.iload_n 3, 1) := by decide +kernel
theorem dX0_read_48 : decode cX0_read 48 = .ok (.iconst 1, 1) := by decide +kernel
theorem dX0_read_49 : decode cX0_read 49 = .ok (.iadd, 1) := by decide +kernel
theorem dX0_read_50 : decode cX0_read 50 = .ok (.invokevirtual 15, 3) := by decide +kernel
theorem dX0_read_53 : decode cX0_read 53 = .ok (.bipush 120, 2) := by decide +kernel
theorem dX0_read_55 : decode cX0_read 55 = .ok (.if_icmp .ne 13, 3) := by decide +kernel
theorem dX0_read_58 : decode cX0_read 58 = .ok (.aload_n 0, 1) := by decide +kernel
theorem dX0_read_59 : decode cX0_read 59 = .ok (.aload_n 1, 1) := by decide +kernel
theorem dX0_read_60 : decode cX0_read 60 = .ok (.iload_n 3, 1) := by decide +kernel
theorem dX0_read_61 : decode cX0_read 61 = .ok (.iconst 2, 1) := by decide +kernel
theorem dX0_read_62 : decode cX0_read 62 = .ok (.iadd, 1) := by decide +kernel
theorem dX0_read_63 : decode cX0_read 63 = .ok (.iload_n 2, 1) := by decide +kernel
theorem dX0_read_64 : decode cX0_read 64 = .ok (.invokevirtual 21, 3) := by decide +kernel
theorem dX0_read_67 : decode cX0_read 67 = .ok (.ireturn, 1) := by decide +kernel
theorem dX0_read_68 : decode cX0_read 68 = .ok (.aload_n 0, 1) := by decide +kernel
theorem dX0_read_69 : decode cX0_read 69 = .ok (.aload_n 1, 1) := by decide +kernel
theorem dX0_read_70 : decode cX0_read 70 = .ok (.iload_n 3, 1) := by decide +kernel
theorem dX0_read_71 : decode cX0_read 71 = .ok (.iload_n 2, 1) := by decide +kernel
theorem dX0_read_72 : decode cX0_read 72 = .ok (.invokevirtual 25, 3) := by decide +kernel
theorem dX0_read_75 : decode cX0_read 75 = .ok (.ireturn, 1) := by decide +kernel
theorem dX0_readHexadecimal_0 : decode cX0_readHexadecimal 0 = .ok (.aload_n 1, 1) := by decide +kernel
theorem dX0_readHexadecimal_1 : decode cX0_readHexadecimal 1 = .ok (.getfield 28, 3) := by decide +kernel
theorem dX0_readHexadecimal_4 : decode cX0_readHexadecimal 4 = .ok (.iload_n 2, 1) := by decide +kernel
theorem dX0_readHexadecimal_5 : decode cX0_readHexadecimal 5 = .ok (.isub, 1) := by decide +kernel
theorem dX0_readHexadecimal_6 : decode cX0_readHexadecimal 6 = .ok (.istore 4, 2) := by decide +kernel
theorem dX0_readHexadecimal_8 : decode cX0_readHexadecimal 8 = .ok (.iload 4, 2) := by decide +kernel
theorem dX0_readHexadecimal_10 : decode cX0_readHexadecimal 10 = .ok (.iconst 1, 1) := by decide +kernel
theorem dX0_readHexadecimal_11 : decode cX0_readHexadecimal 11 = .ok (.if_icmp .lt 10, 3) := by decide +kernel
theorem dX0_readHexadecimal_14 : decode cX0_readHexadecimal 14 = .ok (.iload 4, 2) := by decide +kernel
theorem dX0_readHexadecimal_16 : decode cX0_readHexadecimal 16 = .ok (.bipush 16, 2) := by decide +kernel
theorem dX0_readHexadecimal_18 : decode cX0_readHexadecimal 18 = .ok (.if_icmp .le 5, 3) := by decide +kernel
theorem dX0_readHexadecimal_21 : decode cX0_readHexadecimal 21 = .ok (.iconst 0, 1) := by decide +kernel
theorem dX0_readHexadecimal_22 : decode cX0_readHexadecimal 22 = .ok (.ireturn, 1) := by decide +kernel
theorem dX0_readHexadecimal_23 : decode cX0_readHexadecimal 23 = .ok (.aload_n 0, 1) := by decide +kernel
theorem dX0_readHexadecimal_24 : decode cX0_readHexadecimal 24 = .ok (.lconst 0, 1) := by decide +kernel
theorem dX0_readHexadecimal_25 : decode cX0_readHexadecimal 25 = .ok (.putfield 9, 3) := by decide +kernel
theorem dX0_readHexadecimal_28 : decode cX0_readHexadecimal 28 = .ok (.iload_n 2, 1) := by decide +kernel
theorem dX0_readHexadecimal_29 : decode cX0_readHexadecimal 29 = .ok (.istore 5, 2) := by decide +kernel
theorem dX0_readHexadecimal_31 : decode cX0_readHexadecimal 31 = .ok (.iload 5, 2) := by decide +kernel
theorem dX0_readHexadecimal_33 : decode cX0_readHexadecimal 33 = .ok (.aload_n 1, 1) := by decide +kernel
theorem dX0_readHexadecimal_34 : decode cX0_readHexadecimal 34 = .ok (.getfield 28, 3) := by decide +kernel
theorem dX0_readHexadecimal_37 : decode cX0_readHexadecimal 37 = .ok (.if_icmp .ge 42, 3) := by decide +kernel
theorem dX0_readHexadecimal_40 : decode cX0_readHexadecimal 40 = .ok (.aload_n 1, 1) := by decide +kernel
theorem dX0_readHexadecimal_41 : decode cX0_readHexadecimal 41 = .ok (.iload 5, 2) := by decide +kernel
theorem dX0_readHexadecimal_43 : decode cX0_readHexadecimal 43 = .ok (.invokevirtual 15, 3) := by decide +kernel
theorem dX0_readHexadecimal_46 : decode cX0_readHexadecimal 46 = .ok (.invokestatic 32, 3) := by decide +kernel
theorem dX0_readHexadecimal_49 : decode cX0_readHexadecimal 49 = .ok (.istore 6, 2) := by decide +kernel
theorem dX0_readHexadecimal_51 : decode cX0_readHexadecimal 51 = .ok (.iload 6, 2) := by decide +kernel
theorem dX0_readHexadecimal_53 : decode cX0_readHexadecimal 53 = .ok (.iconst (-1), 1) := by decide +kernel
theorem dX0_readHexadecimal_54 : decode cX0_readHexadecimal 54 = .ok (.if_icmp .ne 5, 3) := by decide +kernel
theorem dX0_readHexadecimal_57 : decode cX0_readHexadecimal 57 = .ok (.iconst 0, 1) := by decide +kernel
theorem dX0_readHexadecimal_58 : decode cX0_readHexadecimal 58 = .ok (.ireturn, 1) := by decide +kernel
theorem dX0_readHexadecimal_59 : decode cX0_readHexadecimal 59 = .ok (.aload_n 0, 1) := by decide +kernel
theorem dX0_readHexadecimal_60 : decode cX0_readHexadecimal 60 = .ok (.aload_n 0, 1) := by decide +kernel
theorem dX0_readHexadecimal_61 : decode cX0_readHexadecimal 61 = .ok (.getfield 9, 3) := by decide +kernel
theorem dX0_readHexadecimal_64 : decode cX0_readHexadecimal 64 = .ok (.iconst 4, 1) := by decide +kernel
theorem dX0_readHexadecimal_65 : decode cX0_readHexadecimal 65 = .ok (.lshl, 1) := by decide +kernel
theorem dX0_readHexadecimal_66 : decode cX0_readHexadecimal 66 = .ok (.iload 6, 2) := by decide +kernel
theorem dX0_readHexadecimal_68 : decode cX0_readHexadecimal 68 = .ok (.i2l, 1) := by decide +kernel
theorem dX0_readHexadecimal_69 : decode cX0_readHexadecimal 69 = .ok (.lor, 1) := by decide +kernel
theorem dX0_readHexadecimal_70 : decode cX0_readHexadecimal 70 = .ok (.putfield 9, 3) := by decide +kernel
theorem dX0_readHexadecimal_73 : decode cX0_readHexadecimal 73 = .ok (.iinc 5 1, 3) := by decide +kernel
theorem dX0_readHexadecimal_76 : decode cX0_readHexadecimal 76 = .ok (.goto (-45), 3) := by decide +kernel
theorem dX0_readHexadecimal_79 : decode cX0_readHexadecimal 79 = .ok (.iload_n 3, 1) := by decide +kernel
theorem dX0_readHexadecimal_80 : decode cX0_readHexadecimal 80 = .ok (.ifCond .eq 12, 3) := by decide +kernel
theorem dX0_readHexadecimal_83 : decode cX0_readHexadecimal 83 = .ok (.aload_n 0, 1) := by decide +kernel
theorem dX0_readHexadecimal_84 : decode cX0_readHexadecimal 84 = .ok (.aload_n 0, 1) := by decide +kernel
theorem dX0_readHexadecimal_85 : decode cX0_readHexadecimal 85 = .ok (.getfield 9, 3) := by decide +kernel
theorem dX0_readHexadecimal_88 : decode cX0_readHexadecimal 88 = .ok (.lneg, 1) := by decide +kernel
theorem dX0_readHexadecimal_89 : decode cX0_readHexadecimal 89 = .ok (.putfield 9, 3) := by decide +kernel
theorem dX0_readHexadecimal_92 : decode cX0_readHexadecimal 92 = .ok (.iconst 1, 1) := by decide +kernel
theorem dX0_readHexadecimal_93 : decode cX0_readHexadecimal 93 = .ok (.ireturn, 1) := by decide +kernel
theorem dX0_hexadecimalDigit_0 : decode cX0_hexadecimalDigit 0 = .ok (.iload_n 0, 1) := by decide +kernel
theorem dX0_hexadecimalDigit_1 : decode cX0_hexadecimalDigit 1 = .ok (.invokestatic 35, 3) := by decide +kernel
theorem dX0_hexadecimalDigit_4 : decode cX0_hexadecimalDigit 4 = .ok (.ifCond .eq 8, 3) := by decide +kernel
theorem dX0_hexadecimalDigit_7 : decode cX0_hexadecimalDigit 7 = .ok (.iload_n 0, 1) := by decide +kernel
theorem dX0_hexadecimalDigit_8 : decode cX0_hexadecimalDigit 8 = .ok (.bipush 48, 2) := by decide +kernel
theorem dX0_hexadecimalDigit_10 : decode cX0_hexadecimalDigit 10 = .ok (.isub, 1) := by decide +kernel
theorem dX0_hexadecimalDigit_11 : decode cX0_hexadecimalDigit 11 = .ok (.ireturn, 1) := by decide +kernel
theorem dX0_hexadecimalDigit_12 : decode cX0_hexadecimalDigit 12 = .ok (.iload_n 0, 1) := by decide +kernel
theorem dX0_hexadecimalDigit_13 : decode cX0_hexadecimalDigit 13 = .ok (.bipush 97, 2) := by decide +kernel
theorem dX0_hexadecimalDigit_15 : decode cX0_hexadecimalDigit 15 = .ok (.if_icmp .lt 17, 3) := by decide +kernel
theorem dX0_hexadecimalDigit_18 : decode cX0_hexadecimalDigit 18 = .ok (.iload_n 0, 1) := by decide +kernel
theorem dX0_hexadecimalDigit_19 : decode cX0_hexadecimalDigit 19 = .ok (.bipush 102, 2) := by decide +kernel
theorem dX0_hexadecimalDigit_21 : decode cX0_hexadecimalDigit 21 = .ok (.if_icmp .gt 11, 3) := by decide +kernel
theorem dX0_hexadecimalDigit_24 : decode cX0_hexadecimalDigit 24 = .ok (.iload_n 0, 1) := by decide +kernel
theorem dX0_hexadecimalDigit_25 : decode cX0_hexadecimalDigit 25 = .ok (.bipush 97, 2) := by decide +kernel
theorem dX0_hexadecimalDigit_27 : decode cX0_hexadecimalDigit 27 = .ok (.isub, 1) := by decide +kernel
theorem dX0_hexadecimalDigit_28 : decode cX0_hexadecimalDigit 28 = .ok (.bipush 10, 2) := by decide +kernel
theorem dX0_hexadecimalDigit_30 : decode cX0_hexadecimalDigit 30 = .ok (.iadd, 1) := by decide +kernel
theorem dX0_hexadecimalDigit_31 : decode cX0_hexadecimalDigit 31 = .ok (.ireturn, 1) := by decide +kernel
theorem dX0_hexadecimalDigit_32 : decode cX0_hexadecimalDigit 32 = .ok (.iload_n 0, 1) := by decide +kernel
theorem dX0_hexadecimalDigit_33 : decode cX0_hexadecimalDigit 33 = .ok (.bipush 65, 2) := by decide +kernel
theorem dX0_hexadecimalDigit_35 : decode cX0_hexadecimalDigit 35 = .ok (.if_icmp .lt 17, 3) := by decide +kernel
theorem dX0_hexadecimalDigit_38 : decode cX0_hexadecimalDigit 38 = .ok (.iload_n 0, 1) := by decide +kernel
theorem dX0_hexadecimalDigit_39 : decode cX0_hexadecimalDigit 39 = .ok (.bipush 70, 2) := by decide +kernel
theorem dX0_hexadecimalDigit_41 : decode cX0_hexadecimalDigit 41 = .ok (.if_icmp .gt 11, 3) := by decide +kernel
theorem dX0_hexadecimalDigit_44 : decode cX0_hexadecimalDigit 44 = .ok (.iload_n 0, 1) := by decide +kernel
theorem dX0_hexadecimalDigit_45 : decode cX0_hexadecimalDigit 45 = .ok (.bipush 65, 2) := by decide +kernel
theorem dX0_hexadecimalDigit_47 : decode cX0_hexadecimalDigit 47 = .ok (.isub, 1) := by decide +kernel
theorem dX0_hexadecimalDigit_48 : decode cX0_hexadecimalDigit 48 = .ok (.bipush 10, 2) := by decide +kernel
theorem dX0_hexadecimalDigit_50 : decode cX0_hexadecimalDigit 50 = .ok (.iadd, 1) := by decide +kernel
theorem dX0_hexadecimalDigit_51 : decode cX0_hexadecimalDigit 51 = .ok (.ireturn, 1) := by decide +kernel
theorem dX0_hexadecimalDigit_52 : decode cX0_hexadecimalDigit 52 = .ok (.iconst (-1), 1) := by decide +kernel
theorem dX0_hexadecimalDigit_53 : decode cX0_hexadecimalDigit 53 = .ok (.ireturn, 1) := by decide +kernel
theorem dX0_readDecimal_0 : decode cX0_readDecimal 0 = .ok (.iload_n 2, 1) := by decide +kernel
theorem dX0_readDecimal_1 : decode cX0_readDecimal 1 = .ok (.aload_n 1, 1) := by decide +kernel
theorem dX0_readDecimal_2 : decode cX0_readDecimal 2 = .ok (.getfield 28, 3) := by decide +kernel
theorem dX0_readDecimal_5 : decode cX0_readDecimal 5 = .ok (.if_icmp .lt 5, 3) := by decide +kernel
theorem dX0_readDecimal_8 : decode cX0_readDecimal 8 = .ok (.iconst 0, 1) := by decide +kernel
theorem dX0_readDecimal_9 : decode cX0_readDecimal 9 = .ok (.ireturn, 1) := by decide +kernel
theorem dX0_readDecimal_10 : decode cX0_readDecimal 10 = .ok (.aload_n 0, 1) := by decide +kernel
theorem dX0_readDecimal_11 : decode cX0_readDecimal 11 = .ok (.lconst 0, 1) := by decide +kernel
theorem dX0_readDecimal_12 : decode cX0_readDecimal 12 = .ok (.putfield 9, 3) := by decide +kernel
theorem dX0_readDecimal_15 : decode cX0_readDecimal 15 = .ok (.iload_n 2, 1) := by decide +kernel
theorem dX0_readDecimal_16 : decode cX0_readDecimal 16 = .ok (.istore 4, 2) := by decide +kernel
theorem dX0_readDecimal_18 : decode cX0_readDecimal 18 = .ok (.iload 4, 2) := by decide +kernel
theorem dX0_readDecimal_20 : decode cX0_readDecimal 20 = .ok (.aload_n 1, 1) := by decide +kernel
theorem dX0_readDecimal_21 : decode cX0_readDecimal 21 = .ok (.getfield 28, 3) := by decide +kernel
theorem dX0_readDecimal_24 : decode cX0_readDecimal 24 = .ok (.if_icmp .ge 39, 3) := by decide +kernel
theorem dX0_readDecimal_27 : decode cX0_readDecimal 27 = .ok (.aload_n 1, 1) := by decide +kernel
theorem dX0_readDecimal_28 : decode cX0_readDecimal 28 = .ok (.iload 4, 2) := by decide +kernel
theorem dX0_readDecimal_30 : decode cX0_readDecimal 30 = .ok (.invokevirtual 15, 3) := by decide +kernel
theorem dX0_readDecimal_33 : decode cX0_readDecimal 33 = .ok (.istore 5, 2) := by decide +kernel
theorem dX0_readDecimal_35 : decode cX0_readDecimal 35 = .ok (.iload 5, 2) := by decide +kernel
theorem dX0_readDecimal_37 : decode cX0_readDecimal 37 = .ok (.invokestatic 35, 3) := by decide +kernel
theorem dX0_readDecimal_40 : decode cX0_readDecimal 40 = .ok (.ifCond .eq 15, 3) := by decide +kernel
theorem dX0_readDecimal_43 : decode cX0_readDecimal 43 = .ok (.aload_n 0, 1) := by decide +kernel
theorem dX0_readDecimal_44 : decode cX0_readDecimal 44 = .ok (.iload 5, 2) := by decide +kernel
theorem dX0_readDecimal_46 : decode cX0_readDecimal 46 = .ok (.bipush 48, 2) := by decide +kernel
theorem dX0_readDecimal_48 : decode cX0_readDecimal 48 = .ok (.isub, 1) := by decide +kernel
theorem dX0_readDecimal_49 : decode cX0_readDecimal 49 = .ok (.invokevirtual 39, 3) := by decide +kernel
theorem dX0_readDecimal_52 : decode cX0_readDecimal 52 = .ok (.ifCond .ne 5, 3) := by decide +kernel
theorem dX0_readDecimal_55 : decode cX0_readDecimal 55 = .ok (.iconst 0, 1) := by decide +kernel
theorem dX0_readDecimal_56 : decode cX0_readDecimal 56 = .ok (.ireturn, 1) := by decide +kernel
theorem dX0_readDecimal_57 : decode cX0_readDecimal 57 = .ok (.iinc 4 1, 3) := by decide +kernel
theorem dX0_readDecimal_60 : decode cX0_readDecimal 60 = .ok (.goto (-42), 3) := by decide +kernel
theorem dX0_readDecimal_63 : decode cX0_readDecimal 63 = .ok (.iload_n 3, 1) := by decide +kernel
theorem dX0_readDecimal_64 : decode cX0_readDecimal 64 = .ok (.ifCond .eq 5, 3) := by decide +kernel
theorem dX0_readDecimal_67 : decode cX0_readDecimal 67 = .ok (.iconst 1, 1) := by decide +kernel
theorem dX0_readDecimal_68 : decode cX0_readDecimal 68 = .ok (.ireturn, 1) := by decide +kernel
theorem dX0_readDecimal_69 : decode cX0_readDecimal 69 = .ok (.aload_n 0, 1) := by decide +kernel
theorem dX0_readDecimal_70 : decode cX0_readDecimal 70 = .ok (.getfield 9, 3) := by decide +kernel
theorem dX0_readDecimal_73 : decode cX0_readDecimal 73 = .ok (.ldc2_w 42, 3) := by decide +kernel
theorem dX0_readDecimal_76 : decode cX0_readDecimal 76 = .ok (.lcmp, 1) := by decide +kernel
theorem dX0_readDecimal_77 : decode cX0_readDecimal 77 = .ok (.ifCond .ne 5, 3) := by decide +kernel
theorem dX0_readDecimal_80 : decode cX0_readDecimal 80 = .ok (.iconst 0, 1) := by decide +kernel
theorem dX0_readDecimal_81 : decode cX0_readDecimal 81 = .ok (.ireturn, 1) := by decide +kernel
theorem dX0_readDecimal_82 : decode cX0_readDecimal 82 = .ok (.aload_n 0, 1) := by decide +kernel
theorem dX0_readDecimal_83 : decode cX0_readDecimal 83 = .ok (.aload_n 0, 1) := by decide +kernel
theorem dX0_readDecimal_84 : decode cX0_readDecimal 84 = .ok (.getfield 9, 3) := by decide +kernel
theorem dX0_readDecimal_87 : decode cX0_readDecimal 87 = .ok (.lneg, 1) := by decide +kernel
theorem dX0_readDecimal_88 : decode cX0_readDecimal 88 = .ok (.putfield 9, 3) := by decide +kernel
theorem dX0_readDecimal_91 : decode cX0_readDecimal 91 = .ok (.iconst 1, 1) := by decide +kernel
theorem dX0_readDecimal_92 : decode cX0_readDecimal 92 = .ok (.ireturn, 1) := by decide +kernel
theorem dX0_takeDigitBelowZero_0 : decode cX0_takeDigitBelowZero 0 = .ok (.aload_n 0, 1) := by decide +kernel
theorem dX0_takeDigitBelowZero_1 : decode cX0_takeDigitBelowZero 1 = .ok (.getfield 9, 3) := by decide +kernel
theorem dX0_takeDigitBelowZero_4 : decode cX0_takeDigitBelowZero 4 = .ok (.ldc2_w 44, 3) := by decide +kernel
theorem dX0_takeDigitBelowZero_7 : decode cX0_takeDigitBelowZero 7 = .ok (.lcmp, 1) := by decide +kernel
theorem dX0_takeDigitBelowZero_8 : decode cX0_takeDigitBelowZero 8 = .ok (.ifCond .lt 21, 3) := by decide +kernel
theorem dX0_takeDigitBelowZero_11 : decode cX0_takeDigitBelowZero 11 = .ok (.aload_n 0, 1) := by decide +kernel
theorem dX0_takeDigitBelowZero_12 : decode cX0_takeDigitBelowZero 12 = .ok (.getfield 9, 3) := by decide +kernel
theorem dX0_takeDigitBelowZero_15 : decode cX0_takeDigitBelowZero 15 = .ok (.ldc2_w 46, 3) := by decide +kernel
theorem dX0_takeDigitBelowZero_18 : decode cX0_takeDigitBelowZero 18 = .ok (.lmul, 1) := by decide +kernel
theorem dX0_takeDigitBelowZero_19 : decode cX0_takeDigitBelowZero 19 = .ok (.ldc2_w 42, 3) := by decide +kernel
theorem dX0_takeDigitBelowZero_22 : decode cX0_takeDigitBelowZero 22 = .ok (.iload_n 1, 1) := by decide +kernel
theorem dX0_takeDigitBelowZero_23 : decode cX0_takeDigitBelowZero 23 = .ok (.i2l, 1) := by decide +kernel
theorem dX0_takeDigitBelowZero_24 : decode cX0_takeDigitBelowZero 24 = .ok (.ladd, 1) := by decide +kernel
theorem dX0_takeDigitBelowZero_25 : decode cX0_takeDigitBelowZero 25 = .ok (.lcmp, 1) := by decide +kernel
theorem dX0_takeDigitBelowZero_26 : decode cX0_takeDigitBelowZero 26 = .ok (.ifCond .ge 5, 3) := by decide +kernel
theorem dX0_takeDigitBelowZero_29 : decode cX0_takeDigitBelowZero 29 = .ok (.iconst 0, 1) := by decide +kernel
theorem dX0_takeDigitBelowZero_30 : decode cX0_takeDigitBelowZero 30 = .ok (.ireturn, 1) := by decide +kernel
theorem dX0_takeDigitBelowZero_31 : decode cX0_takeDigitBelowZero 31 = .ok (.aload_n 0, 1) := by decide +kernel
theorem dX0_takeDigitBelowZero_32 : decode cX0_takeDigitBelowZero 32 = .ok (.aload_n 0, 1) := by decide +kernel
theorem dX0_takeDigitBelowZero_33 : decode cX0_takeDigitBelowZero 33 = .ok (.getfield 9, 3) := by decide +kernel
theorem dX0_takeDigitBelowZero_36 : decode cX0_takeDigitBelowZero 36 = .ok (.ldc2_w 46, 3) := by decide +kernel
theorem dX0_takeDigitBelowZero_39 : decode cX0_takeDigitBelowZero 39 = .ok (.lmul, 1) := by decide +kernel
theorem dX0_takeDigitBelowZero_40 : decode cX0_takeDigitBelowZero 40 = .ok (.iload_n 1, 1) := by decide +kernel
theorem dX0_takeDigitBelowZero_41 : decode cX0_takeDigitBelowZero 41 = .ok (.i2l, 1) := by decide +kernel
theorem dX0_takeDigitBelowZero_42 : decode cX0_takeDigitBelowZero 42 = .ok (.lsub, 1) := by decide +kernel
theorem dX0_takeDigitBelowZero_43 : decode cX0_takeDigitBelowZero 43 = .ok (.putfield 9, 3) := by decide +kernel
theorem dX0_takeDigitBelowZero_46 : decode cX0_takeDigitBelowZero 46 = .ok (.iconst 1, 1) := by decide +kernel
theorem dX0_takeDigitBelowZero_47 : decode cX0_takeDigitBelowZero 47 = .ok (.ireturn, 1) := by decide +kernel
theorem dX3_fillWithInteger_0 : decode cX3_fillWithInteger 0 = .ok (.aload_n 0, 1) := by decide +kernel
theorem dX3_fillWithInteger_1 : decode cX3_fillWithInteger 1 = .ok (.getfield 49, 3) := by decide +kernel
theorem dX3_fillWithInteger_4 : decode cX3_fillWithInteger 4 = .ok (.invokevirtual 62, 3) := by decide +kernel
theorem dX3_fillWithInteger_7 : decode cX3_fillWithInteger 7 = .ok (.aload_n 0, 1) := by decide +kernel
theorem dX3_fillWithInteger_8 : decode cX3_fillWithInteger 8 = .ok (.getfield 38, 3) := by decide +kernel
theorem dX3_fillWithInteger_11 : decode cX3_fillWithInteger 11 = .ok (.getfield 102, 3) := by decide +kernel
theorem dX3_fillWithInteger_14 : decode cX3_fillWithInteger 14 = .ok (.lookupswitch 164 #[(88, 104), (100, 42), (111, 134), (120, 74)], 42) := by decide +kernel
theorem dX3_fillWithInteger_56 : decode cX3_fillWithInteger 56 = .ok (.aload_n 0, 1) := by decide +kernel
theorem dX3_fillWithInteger_57 : decode cX3_fillWithInteger 57 = .ok (.getfield 49, 3) := by decide +kernel
theorem dX3_fillWithInteger_60 : decode cX3_fillWithInteger 60 = .ok (.lload_n 1, 1) := by decide +kernel
theorem dX3_fillWithInteger_61 : decode cX3_fillWithInteger 61 = .ok (.invokevirtual 83, 3) := by decide +kernel
theorem dX3_fillWithInteger_64 : decode cX3_fillWithInteger 64 = .ok (.aload_n 0, 1) := by decide +kernel
theorem dX3_fillWithInteger_65 : decode cX3_fillWithInteger 65 = .ok (.aload_n 0, 1) := by decide +kernel
theorem dX3_fillWithInteger_66 : decode cX3_fillWithInteger 66 = .ok (.getfield 38, 3) := by decide +kernel
theorem dX3_fillWithInteger_69 : decode cX3_fillWithInteger 69 = .ok (.lload_n 1, 1) := by decide +kernel
theorem dX3_fillWithInteger_70 : decode cX3_fillWithInteger 70 = .ok (.invokevirtual 120, 3) := by decide +kernel
theorem dX3_fillWithInteger_73 : decode cX3_fillWithInteger 73 = .ok (.aload_n 0, 1) := by decide +kernel
theorem dX3_fillWithInteger_74 : decode cX3_fillWithInteger 74 = .ok (.getfield 49, 3) := by decide +kernel
theorem dX3_fillWithInteger_77 : decode cX3_fillWithInteger 77 = .ok (.aload_n 0, 1) := by decide +kernel
theorem dX3_fillWithInteger_78 : decode cX3_fillWithInteger 78 = .ok (.getfield 38, 3) := by decide +kernel
theorem dX3_fillWithInteger_81 : decode cX3_fillWithInteger 81 = .ok (.getfield 123, 3) := by decide +kernel
theorem dX3_fillWithInteger_84 : decode cX3_fillWithInteger 84 = .ok (.invokevirtual 105, 3) := by decide +kernel
theorem dX3_fillWithInteger_87 : decode cX3_fillWithInteger 87 = .ok (.ireturn, 1) := by decide +kernel
theorem dX3_fillWithInteger_88 : decode cX3_fillWithInteger 88 = .ok (.aload_n 0, 1) := by decide +kernel
theorem dX3_fillWithInteger_89 : decode cX3_fillWithInteger 89 = .ok (.getfield 49, 3) := by decide +kernel
theorem dX3_fillWithInteger_92 : decode cX3_fillWithInteger 92 = .ok (.lload_n 1, 1) := by decide +kernel
theorem dX3_fillWithInteger_93 : decode cX3_fillWithInteger 93 = .ok (.bipush 16, 2) := by decide +kernel
theorem dX3_fillWithInteger_95 : decode cX3_fillWithInteger 95 = .ok (.iconst 4, 1) := by decide +kernel
theorem dX3_fillWithInteger_96 : decode cX3_fillWithInteger 96 = .ok (.bipush 97, 2) := by decide +kernel
theorem dX3_fillWithInteger_98 : decode cX3_fillWithInteger 98 = .ok (.invokevirtual 127, 3) := by decide +kernel
theorem dX3_fillWithInteger_101 : decode cX3_fillWithInteger 101 = .ok (.aload_n 0, 1) := by decide +kernel
theorem dX3_fillWithInteger_102 : decode cX3_fillWithInteger 102 = .ok (.iconst 0, 1) := by decide +kernel
theorem dX3_fillWithInteger_103 : decode cX3_fillWithInteger 103 = .ok (.aload_n 0, 1) := by decide +kernel
theorem dX3_fillWithInteger_104 : decode cX3_fillWithInteger 104 = .ok (.getfield 49, 3) := by decide +kernel
theorem dX3_fillWithInteger_107 : decode cX3_fillWithInteger 107 = .ok (.aload_n 0, 1) := by decide +kernel
theorem dX3_fillWithInteger_108 : decode cX3_fillWithInteger 108 = .ok (.getfield 38, 3) := by decide +kernel
theorem dX3_fillWithInteger_111 : decode cX3_fillWithInteger 111 = .ok (.getfield 123, 3) := by decide +kernel
theorem dX3_fillWithInteger_114 : decode cX3_fillWithInteger 114 = .ok (.invokevirtual 105, 3) := by decide +kernel
theorem dX3_fillWithInteger_117 : decode cX3_fillWithInteger 117 = .ok (.ireturn, 1) := by decide +kernel
theorem dX3_fillWithInteger_118 : decode cX3_fillWithInteger 118 = .ok (.aload_n 0, 1) := by decide +kernel
theorem dX3_fillWithInteger_119 : decode cX3_fillWithInteger 119 = .ok (.getfield 49, 3) := by decide +kernel
theorem dX3_fillWithInteger_122 : decode cX3_fillWithInteger 122 = .ok (.lload_n 1, 1) := by decide +kernel
theorem dX3_fillWithInteger_123 : decode cX3_fillWithInteger 123 = .ok (.bipush 16, 2) := by decide +kernel
theorem dX3_fillWithInteger_125 : decode cX3_fillWithInteger 125 = .ok (.iconst 4, 1) := by decide +kernel
theorem dX3_fillWithInteger_126 : decode cX3_fillWithInteger 126 = .ok (.bipush 65, 2) := by decide +kernel
theorem dX3_fillWithInteger_128 : decode cX3_fillWithInteger 128 = .ok (.invokevirtual 127, 3) := by decide +kernel
theorem dX3_fillWithInteger_131 : decode cX3_fillWithInteger 131 = .ok (.aload_n 0, 1) := by decide +kernel
theorem dX3_fillWithInteger_132 : decode cX3_fillWithInteger 132 = .ok (.iconst 0, 1) := by decide +kernel
theorem dX3_fillWithInteger_133 : decode cX3_fillWithInteger 133 = .ok (.aload_n 0, 1) := by decide +kernel
theorem dX3_fillWithInteger_134 : decode cX3_fillWithInteger 134 = .ok (.getfield 49, 3) := by decide +kernel
theorem dX3_fillWithInteger_137 : decode cX3_fillWithInteger 137 = .ok (.aload_n 0, 1) := by decide +kernel
theorem dX3_fillWithInteger_138 : decode cX3_fillWithInteger 138 = .ok (.getfield 38, 3) := by decide +kernel
theorem dX3_fillWithInteger_141 : decode cX3_fillWithInteger 141 = .ok (.getfield 123, 3) := by decide +kernel
theorem dX3_fillWithInteger_144 : decode cX3_fillWithInteger 144 = .ok (.invokevirtual 105, 3) := by decide +kernel
theorem dX3_fillWithInteger_147 : decode cX3_fillWithInteger 147 = .ok (.ireturn, 1) := by decide +kernel
theorem dX3_fillWithInteger_148 : decode cX3_fillWithInteger 148 = .ok (.aload_n 0, 1) := by decide +kernel
theorem dX3_fillWithInteger_149 : decode cX3_fillWithInteger 149 = .ok (.getfield 49, 3) := by decide +kernel
theorem dX3_fillWithInteger_152 : decode cX3_fillWithInteger 152 = .ok (.lload_n 1, 1) := by decide +kernel
theorem dX3_fillWithInteger_153 : decode cX3_fillWithInteger 153 = .ok (.bipush 22, 2) := by decide +kernel
theorem dX3_fillWithInteger_155 : decode cX3_fillWithInteger 155 = .ok (.iconst 3, 1) := by decide +kernel
theorem dX3_fillWithInteger_156 : decode cX3_fillWithInteger 156 = .ok (.bipush 97, 2) := by decide +kernel
theorem dX3_fillWithInteger_158 : decode cX3_fillWithInteger 158 = .ok (.invokevirtual 127, 3) := by decide +kernel
theorem dX3_fillWithInteger_161 : decode cX3_fillWithInteger 161 = .ok (.aload_n 0, 1) := by decide +kernel
theorem dX3_fillWithInteger_162 : decode cX3_fillWithInteger 162 = .ok (.iconst 0, 1) := by decide +kernel
theorem dX3_fillWithInteger_163 : decode cX3_fillWithInteger 163 = .ok (.aload_n 0, 1) := by decide +kernel
theorem dX3_fillWithInteger_164 : decode cX3_fillWithInteger 164 = .ok (.getfield 49, 3) := by decide +kernel
theorem dX3_fillWithInteger_167 : decode cX3_fillWithInteger 167 = .ok (.aload_n 0, 1) := by decide +kernel
theorem dX3_fillWithInteger_168 : decode cX3_fillWithInteger 168 = .ok (.getfield 38, 3) := by decide +kernel
theorem dX3_fillWithInteger_171 : decode cX3_fillWithInteger 171 = .ok (.getfield 123, 3) := by decide +kernel
theorem dX3_fillWithInteger_174 : decode cX3_fillWithInteger 174 = .ok (.invokevirtual 105, 3) := by decide +kernel
theorem dX3_fillWithInteger_177 : decode cX3_fillWithInteger 177 = .ok (.ireturn, 1) := by decide +kernel
theorem dX3_fillWithInteger_178 : decode cX3_fillWithInteger 178 = .ok (.aload_n 0, 1) := by decide +kernel
theorem dX3_fillWithInteger_179 : decode cX3_fillWithInteger 179 = .ok (.getfield 49, 3) := by decide +kernel
theorem dX3_fillWithInteger_182 : decode cX3_fillWithInteger 182 = .ok (.lload_n 1, 1) := by decide +kernel
theorem dX3_fillWithInteger_183 : decode cX3_fillWithInteger 183 = .ok (.l2i, 1) := by decide +kernel
theorem dX3_fillWithInteger_184 : decode cX3_fillWithInteger 184 = .ok (.invokevirtual 80, 3) := by decide +kernel
theorem dX3_fillWithInteger_187 : decode cX3_fillWithInteger 187 = .ok (.pop, 1) := by decide +kernel
theorem dX3_fillWithInteger_188 : decode cX3_fillWithInteger 188 = .ok (.aload_n 0, 1) := by decide +kernel
theorem dX3_fillWithInteger_189 : decode cX3_fillWithInteger 189 = .ok (.iconst 0, 1) := by decide +kernel
theorem dX3_fillWithInteger_190 : decode cX3_fillWithInteger 190 = .ok (.aload_n 0, 1) := by decide +kernel
theorem dX3_fillWithInteger_191 : decode cX3_fillWithInteger 191 = .ok (.getfield 49, 3) := by decide +kernel
theorem dX3_fillWithInteger_194 : decode cX3_fillWithInteger 194 = .ok (.iconst 0, 1) := by decide +kernel
theorem dX3_fillWithInteger_195 : decode cX3_fillWithInteger 195 = .ok (.invokevirtual 105, 3) := by decide +kernel
theorem dX3_fillWithInteger_198 : decode cX3_fillWithInteger 198 = .ok (.ireturn, 1) := by decide +kernel
theorem dX1_signOf_0 : decode cX1_signOf 0 = .ok (.lload_n 1, 1) := by decide +kernel
theorem dX1_signOf_1 : decode cX1_signOf 1 = .ok (.lconst 0, 1) := by decide +kernel
theorem dX1_signOf_2 : decode cX1_signOf 2 = .ok (.lcmp, 1) := by decide +kernel
theorem dX1_signOf_3 : decode cX1_signOf 3 = .ok (.ifCond .ge 6, 3) := by decide +kernel
theorem dX1_signOf_6 : decode cX1_signOf 6 = .ok (.bipush 45, 2) := by decide +kernel
theorem dX1_signOf_8 : decode cX1_signOf 8 = .ok (.ireturn, 1) := by decide +kernel
theorem dX1_signOf_9 : decode cX1_signOf 9 = .ok (.aload_n 0, 1) := by decide +kernel
theorem dX1_signOf_10 : decode cX1_signOf 10 = .ok (.getfield 35, 3) := by decide +kernel
theorem dX1_signOf_13 : decode cX1_signOf 13 = .ok (.ifCond .eq 6, 3) := by decide +kernel
theorem dX1_signOf_16 : decode cX1_signOf 16 = .ok (.bipush 43, 2) := by decide +kernel
theorem dX1_signOf_18 : decode cX1_signOf 18 = .ok (.ireturn, 1) := by decide +kernel
theorem dX1_signOf_19 : decode cX1_signOf 19 = .ok (.aload_n 0, 1) := by decide +kernel
theorem dX1_signOf_20 : decode cX1_signOf 20 = .ok (.getfield 39, 3) := by decide +kernel
theorem dX1_signOf_23 : decode cX1_signOf 23 = .ok (.ifCond .eq 8, 3) := by decide +kernel
theorem dX1_signOf_26 : decode cX1_signOf 26 = .ok (.bipush 32, 2) := by decide +kernel
theorem dX1_signOf_28 : decode cX1_signOf 28 = .ok (.goto 4, 3) := by decide +kernel
theorem dX1_signOf_31 : decode cX1_signOf 31 = .ok (.iconst 0, 1) := by decide +kernel
theorem dX1_signOf_32 : decode cX1_signOf 32 = .ok (.ireturn, 1) := by decide +kernel
theorem dX2_addBits_0 : decode cX2_addBits 0 = .ok (.iconst 1, 1) := by decide +kernel
theorem dX2_addBits_1 : decode cX2_addBits 1 = .ok (.iload 4, 2) := by decide +kernel
theorem dX2_addBits_3 : decode cX2_addBits 3 = .ok (.ishl, 1) := by decide +kernel
theorem dX2_addBits_4 : decode cX2_addBits 4 = .ok (.iconst 1, 1) := by decide +kernel
theorem dX2_addBits_5 : decode cX2_addBits 5 = .ok (.isub, 1) := by decide +kernel
theorem dX2_addBits_6 : decode cX2_addBits 6 = .ok (.istore 6, 2) := by decide +kernel
theorem dX2_addBits_8 : decode cX2_addBits 8 = .ok (.iconst 0, 1) := by decide +kernel
theorem dX2_addBits_9 : decode cX2_addBits 9 = .ok (.istore 7, 2) := by decide +kernel
theorem dX2_addBits_11 : decode cX2_addBits 11 = .ok (.iload_n 3, 1) := by decide +kernel
theorem dX2_addBits_12 : decode cX2_addBits 12 = .ok (.iconst 1, 1) := by decide +kernel
theorem dX2_addBits_13 : decode cX2_addBits 13 = .ok (.isub, 1) := by decide +kernel
theorem dX2_addBits_14 : decode cX2_addBits 14 = .ok (.istore 8, 2) := by decide +kernel
theorem dX2_addBits_16 : decode cX2_addBits 16 = .ok (.iload 8, 2) := by decide +kernel
theorem dX2_addBits_18 : decode cX2_addBits 18 = .ok (.ifCond .lt 77, 3) := by decide +kernel
theorem dX2_addBits_21 : decode cX2_addBits 21 = .ok (.lload_n 1, 1) := by decide +kernel
theorem dX2_addBits_22 : decode cX2_addBits 22 = .ok (.iload 8, 2) := by decide +kernel
theorem dX2_addBits_24 : decode cX2_addBits 24 = .ok (.iload 4, 2) := by decide +kernel
theorem dX2_addBits_26 : decode cX2_addBits 26 = .ok (.imul, 1) := by decide +kernel
theorem dX2_addBits_27 : decode cX2_addBits 27 = .ok (.lushr, 1) := by decide +kernel
theorem dX2_addBits_28 : decode cX2_addBits 28 = .ok (.l2i, 1) := by decide +kernel
theorem dX2_addBits_29 : decode cX2_addBits 29 = .ok (.iload 6, 2) := by decide +kernel
theorem dX2_addBits_31 : decode cX2_addBits 31 = .ok (.iand, 1) := by decide +kernel
theorem dX2_addBits_32 : decode cX2_addBits 32 = .ok (.istore 9, 2) := by decide +kernel
theorem dX2_addBits_34 : decode cX2_addBits 34 = .ok (.iload 7, 2) := by decide +kernel
theorem dX2_addBits_36 : decode cX2_addBits 36 = .ok (.ifCond .ne 13, 3) := by decide +kernel
theorem dX2_addBits_39 : decode cX2_addBits 39 = .ok (.iload 9, 2) := by decide +kernel
theorem dX2_addBits_41 : decode cX2_addBits 41 = .ok (.ifCond .ne 8, 3) := by decide +kernel
theorem dX2_addBits_44 : decode cX2_addBits 44 = .ok (.iload 8, 2) := by decide +kernel
theorem dX2_addBits_46 : decode cX2_addBits 46 = .ok (.ifCond .ne 7, 3) := by decide +kernel
theorem dX2_addBits_49 : decode cX2_addBits 49 = .ok (.iconst 1, 1) := by decide +kernel
theorem dX2_addBits_50 : decode cX2_addBits 50 = .ok (.goto 4, 3) := by decide +kernel
theorem dX2_addBits_53 : decode cX2_addBits 53 = .ok (.iconst 0, 1) := by decide +kernel
theorem dX2_addBits_54 : decode cX2_addBits 54 = .ok (.istore 7, 2) := by decide +kernel
theorem dX2_addBits_56 : decode cX2_addBits 56 = .ok (.iload 7, 2) := by decide +kernel
theorem dX2_addBits_58 : decode cX2_addBits 58 = .ok (.ifCond .eq 31, 3) := by decide +kernel
theorem dX2_addBits_61 : decode cX2_addBits 61 = .ok (.aload_n 0, 1) := by decide +kernel
theorem dX2_addBits_62 : decode cX2_addBits 62 = .ok (.iload 9, 2) := by decide +kernel
theorem dX2_addBits_64 : decode cX2_addBits 64 = .ok (.bipush 10, 2) := by decide +kernel
theorem dX2_addBits_66 : decode cX2_addBits 66 = .ok (.if_icmp .ge 11, 3) := by decide +kernel
theorem dX2_addBits_69 : decode cX2_addBits 69 = .ok (.bipush 48, 2) := by decide +kernel
theorem dX2_addBits_71 : decode cX2_addBits 71 = .ok (.iload 9, 2) := by decide +kernel
theorem dX2_addBits_73 : decode cX2_addBits 73 = .ok (.iadd, 1) := by decide +kernel
theorem dX2_addBits_74 : decode cX2_addBits 74 = .ok (.goto 11, 3) := by decide +kernel
theorem dX2_addBits_77 : decode cX2_addBits 77 = .ok (.iload 5, 2) := by decide +kernel
theorem dX2_addBits_79 : decode cX2_addBits 79 = .ok (.iload 9, 2) := by decide +kernel
theorem dX2_addBits_81 : decode cX2_addBits 81 = .ok (.iadd, 1) := by decide +kernel
theorem dX2_addBits_82 : decode cX2_addBits 82 = .ok (.bipush 10, 2) := by decide +kernel
theorem dX2_addBits_84 : decode cX2_addBits 84 = .ok (.isub, 1) := by decide +kernel
theorem dX2_addBits_85 : decode cX2_addBits 85 = .ok (.invokevirtual 19, 3) := by decide +kernel
theorem dX2_addBits_88 : decode cX2_addBits 88 = .ok (.pop, 1) := by decide +kernel
theorem dX2_addBits_89 : decode cX2_addBits 89 = .ok (.iinc 8 (-1), 3) := by decide +kernel
theorem dX2_addBits_92 : decode cX2_addBits 92 = .ok (.goto (-76), 3) := by decide +kernel
theorem dX2_addBits_95 : decode cX2_addBits 95 = .ok (.return_, 1) := by decide +kernel
theorem dX3_madeAt_0 : decode cX3_madeAt 0 = .ok (.aload_n 0, 1) := by decide +kernel
theorem dX3_madeAt_1 : decode cX3_madeAt 1 = .ok (.getfield 21, 3) := by decide +kernel
theorem dX3_madeAt_4 : decode cX3_madeAt 4 = .ok (.iload_n 1, 1) := by decide +kernel
theorem dX3_madeAt_5 : decode cX3_madeAt 5 = .ok (.invokevirtual 87, 3) := by decide +kernel
theorem dX3_madeAt_8 : decode cX3_madeAt 8 = .ok (.ireturn, 1) := by decide +kernel
end
section
abbrev tCN : Nat := 0
abbrev tCP : Nat := 1
abbrev tCT : Nat := 2
abbrev tCM : Nat := 3
abbrev tCR : Nat := 4
/-- the array classes: int, Text, byte -/
def tTY (ca : Nat → ClassId) : List (ClassId × FieldType) := [(ca 0, .int), (ca 1, .object "FormatMill$Text"), (ca 2, .byte)]
/-! worlds as functions: cell k of n cells lies at address ad k and holds c k -/
def mw (n : Nat) (ad : Nat → Nat) (c : Nat → va_E) : va_W := (List.range n).map (fun k => (ad k, c k))
theorem mw_len {n : Nat} {ad : Nat → Nat} {c : Nat → va_E} : (mw n ad c).length = n := by simp [mw]
theorem mw_at {n k : Nat} {ad : Nat → Nat} {c : Nat → va_E} {e : va_E} (h : k < n) (he : c k = e) : (mw n ad c)[k]? = some (ad k, e) := by
  unfold mw
  rw [List.getElem?_map, List.getElem?_range h]
  simp [he]
theorem mw_inv {n i : Nat} {ad : Nat → Nat} {c : Nat → va_E} {q : Nat × va_E} (h : (mw n ad c)[i]? = some q) : i < n ∧ q = (ad i, c i) := by
  have hl : i < n := by
    have h1 := (List.getElem?_eq_some_iff.mp h).1
    rw [mw_len] at h1
    exact h1
  rw [mw_at hl rfl] at h
  exact ⟨hl, (Option.some.inj h).symm⟩
theorem mw_set {n k : Nat} {ad : Nat → Nat} {c : Nat → va_E} {e : va_E} (h : k < n) : (mw n ad c).set k (ad k, e) = mw n ad (va_up c k e) := by
  apply List.ext_getElem?
  intro i
  by_cases hik : i = k
  · subst hik
    rw [List.getElem?_set_self (by rw [mw_len]; exact h), mw_at h (va_up_self _ _ _)]
  · rw [List.getElem?_set_ne (Ne.symm hik)]
    by_cases hi : i < n
    · rw [mw_at hi rfl, mw_at hi (va_up_ne _ _ hik)]
    · rw [List.getElem?_eq_none (by rw [mw_len]; omega), List.getElem?_eq_none (by rw [mw_len]; omega)]
theorem mw_push {n q : Nat} {ad : Nat → Nat} {c : Nat → va_E} {e : va_E} : mw n ad c ++ [(q, e)] = mw (n + 1) (va_up ad n q) (va_up c n e) := by
  apply List.ext_getElem?
  intro i
  by_cases hi : i < n
  · rw [List.getElem?_append_left (by rw [mw_len]; exact hi), mw_at hi rfl, mw_at (Nat.lt_succ_of_lt hi) rfl, va_up_ne _ _ (Nat.ne_of_lt hi), va_up_ne _ _ (Nat.ne_of_lt hi)]
  · rw [List.getElem?_append_right (by rw [mw_len]; omega), mw_len]
    by_cases hn : i = n
    · subst hn
      rw [mw_at (Nat.lt_succ_self i) rfl, va_up_self, va_up_self, Nat.sub_self]
      rfl
    · rw [List.getElem?_eq_none (by simp; omega), List.getElem?_eq_none (by rw [mw_len]; omega)]
theorem mw_congr {n : Nat} {ad ad' : Nat → Nat} {c c' : Nat → va_E} (h1 : ∀ k, k < n → ad k = ad' k) (h2 : ∀ k, k < n → c k = c' k) : mw n ad c = mw n ad' c' := by
  apply List.ext_getElem?
  intro i
  by_cases hi : i < n
  · rw [mw_at hi rfl, mw_at hi rfl, h1 i hi, h2 i hi]
  · rw [List.getElem?_eq_none (by rw [mw_len]; omega), List.getElem?_eq_none (by rw [mw_len]; omega)]
theorem mw_D {A : Nat → Prop} {n : Nat} {ad : Nat → Nat} {c : Nat → va_E} (h : va_D A (mw n ad c)) (c' : Nat → va_E) : va_D A (mw n ad c') := by
  refine ⟨fun i j x y hi hj hxy => ?_, fun k q hk => ?_⟩
  · obtain ⟨hi', rfl⟩ := mw_inv hi
    obtain ⟨hj', rfl⟩ := mw_inv hj
    exact h.1 i j _ _ (mw_at hi' rfl) (mw_at hj' rfl) hxy
  · obtain ⟨hk', rfl⟩ := mw_inv hk
    exact h.2 k (ad k, c k) (mw_at hk' rfl)
def mA (n : Nat) (ad : Nat → Nat) (sz : Nat) : Nat → Prop := fun q => (∃ k, k < n ∧ q = ad k) ∨ sz ≤ q
theorem mw_DA {A : Nat → Prop} {n sz : Nat} {ad : Nat → Nat} {c : Nat → va_E} (h : va_D A (mw n ad c)) (c' : Nat → va_E) : va_D (mA n ad sz) (mw n ad c') :=
  ⟨(mw_D h c').1, fun k q hk => by
    obtain ⟨hk', rfl⟩ := mw_inv hk
    exact Or.inl ⟨k, hk', rfl⟩⟩
theorem mA_le {n sz sz' : Nat} {ad : Nat → Nat} (h : sz ≤ sz') : ∀ q, mA n ad sz' q → mA n ad sz q := fun q hq => by
  rcases hq with hq | hq
  · exact Or.inl hq
  · exact Or.inr (Nat.le_trans h hq)
/-- the facts of nest mates that a run carries -/
def nNS (U : State) : Prop := (∀ w ∈ nNs, va_Nw w U) ∧ va_AO RX2 U
theorem nNS_warm {s U : State} (hW : s.WarmedH U.vm) (h : nNS s) : nNS U := ⟨fun w hw => nNs_warm hW w hw (h.1 w hw), va_AO.moved hW.alike h.2⟩
theorem nNS_same {u U : State} (h : u.vm = U.vm) (hZ : nNS u) : nNS U := ⟨fun w hw => va_Nw.same (nNs_tab w hw) h (hZ.1 w hw), va_AO.moved (by rw [h]; exact Vm.Alike.refl _) hZ.2⟩
/-- a method's start: the world, the tables, the addresses apart, the nest mates -/
def mPre (D : va_G) (TY : List (ClassId × FieldType)) (n : Nat) (ad : Nat → Nat) (c : Nat → va_E) (sz : Nat) (U : State) : Prop :=
  U.heap.size = sz ∧ va_P D vwCl (mw n ad c) U.heap ∧ va_K D vwCl TY U ∧ va_D (fun _ => True) (mw n ad c) ∧ nNS U
def mW (D : va_G) (n : Nat) (ad : Nat → Nat) (c' : Nat → va_E) (t : State) : Prop := va_P D vwCl (mw n ad c') t.heap
/-- contracts: an int (or boolean) comes back; nothing; a reference -/
def mInt (l : Launch) (y : MethodName) (ws : List Cond) (rm : Room) (av : List Value) (D : va_G) (TY : List (ClassId × FieldType)) (n : Nat) (ad : Nat → Nat) (c : Nat → va_E) (post : Int32 → (Nat → va_E) → Prop) : Prop :=
  ∀ sz, Met l y ws rm (va_Pc av (mPre D TY n ad c sz)) (va_Qi post (mW D n ad) (mA n ad sz)) 0 0 (mA n ad sz)
def mLong (l : Launch) (y : MethodName) (ws : List Cond) (rm : Room) (av : List Value) (D : va_G) (TY : List (ClassId × FieldType)) (n : Nat) (ad : Nat → Nat) (c : Nat → va_E) (post : Int64 → (Nat → va_E) → Prop) : Prop :=
  ∀ sz, Met l y ws rm (va_Pc av (mPre D TY n ad c sz)) (va_Ql post (mW D n ad) (mA n ad sz)) 0 0 (mA n ad sz)
def mVoid (l : Launch) (y : MethodName) (ws : List Cond) (rm : Room) (av : List Value) (D : va_G) (TY : List (ClassId × FieldType)) (n : Nat) (ad : Nat → Nat) (c : Nat → va_E) (post : (Nat → va_E) → Prop) : Prop :=
  ∀ sz, Met l y ws rm (va_Pc av (mPre D TY n ad c sz)) (va_Qv post (mW D n ad) (mA n ad sz)) 0 0 (mA n ad sz)
def mRef (l : Launch) (y : MethodName) (ws : List Cond) (rm : Room) (av : List Value) (D : va_G) (TY : List (ClassId × FieldType)) (n : Nat) (ad : Nat → Nat) (c : Nat → va_E) (post : Nat → (Nat → va_E) → Prop) : Prop :=
  ∀ sz, Met l y ws rm (va_Pc av (mPre D TY n ad c sz)) (va_Qr (fun _ : Nat → va_E => True) (fun c' a t => post a c' ∧ mW D n ad c' t) (mA n ad sz)) 0 0 (mA n ad sz)
theorem mPre_blind {av : List Value} {D : va_G} {TY : List (ClassId × FieldType)} {n sz : Nat} {ad : Nat → Nat} {c : Nat → va_E} : FrameBlind (va_Pc av (mPre D TY n ad c sz)) := by
  intro a U g mk q
  obtain ⟨q0, q1, qP, qK, qD, qN⟩ := q
  exact ⟨q0, q1, qP, va_K.moved (u := U) (U := U.calling g mk a) (Vm.Alike.refl U.vm) qK, qD, nNS_same (u := U) rfl qN⟩
section MX
variable {p : Program} {l : Launch} {e : Env} {R : Room} {s : State} {m : MethodId} {args : Array Value} {below : List Frame} {meth : Method} {cd : Code} {H : Heap} {locs : List Loc} {cells slots : Nat} {Q : State → Prop}
variable {cc : ByteArray} {pc : Nat} {ls : Array Slot} {rest st0 : List Value} {D : va_G} {TY : List (ClassId × FieldType)} {n : Nat} {ad : Nat → Nat} {c : Nat → va_E}
/-- the top of the stack under another name -/
theorem mx_i {x : Int32} (y : Int32) (h : x = y) (k : W p l e R s m args below meth cd H locs cells slots Q (F0 m pc ls (.int y :: rest))) : W p l e R s m args below meth cd H locs cells slots Q (F0 m pc ls (.int x :: rest)) := by
  subst h; exact k
theorem mx_l {x : Int64} (y : Int64) (h : x = y) (k : W p l e R s m args below meth cd H locs cells slots Q (F0 m pc ls (.long y :: rest))) : W p l e R s m args below meth cd H locs cells slots Q (F0 m pc ls (.long x :: rest)) := by
  subst h; exact k
theorem mx_r {x : Value} (y : Value) (h : x = y) (k : W p l e R s m args below meth cd H locs cells slots Q (F0 m pc ls (y :: rest))) : W p l e R s m args below meth cd H locs cells slots Q (F0 m pc ls (x :: rest)) := by
  subst h; exact k
theorem mx_get (hexec : p.tables.exec = Jvm.exec) (hb : cd.code = cc) {own ref C : String} {T : u_T} {N ci index : Nat} {Ts : List Cond} (hts : ∀ w ∈ Ts, w.before args s = true) (hin : ∀ w ∈ u_ws C T N, w ∈ Ts) (hown : s.vm.findClass own = some m.cls) (hK : va_K D vwCl TY s) (hP : va_P D vwCl (mw n ad c) H) {k0 : Nat} (hk0 : k0 < n) {fs : List Value} (he : c k0 = .inr (ci, fs)) (hc : vwCl[ci]? = some (C, T, N)) (k : Nat) (hk : k < N) (hlink : (Cond.fieldLink own index ref (T k).2.1 (T k).2.2.1).before args s = true) (hsame : ∀ x, s.fieldFound? (T k).1 (T k).2.1 (T k).2.2.1 = some x → s.fieldFound? ref (T k).2.1 (T k).2.2.1 = some x) {v : Value} (hv : fs[k]? = some v) (hdg : decode cc pc = .ok (.getfield index, 3))
    (kk : W p l e R s m args below meth cd H locs cells slots Q (F0 m (pc + 3) ls (v :: rest))) : W p l e R s m args below meth cd H locs cells slots Q (F0 m pc ls (.ref (ad k0) :: rest)) :=
  va_get hexec hb hts hin hown hK hP k0 (mw_at hk0 he) hc k hk hlink hsame hv hdg kk
theorem mx_getN (hexec : p.tables.exec = Jvm.exec) (hb : cd.code = cc) {own ref C host : String} {T : u_T} {N ci index : Nat} {Ts : List Cond} (hts : ∀ w ∈ Ts, w.before args s = true) (hin : ∀ w ∈ u_ws C T N, w ∈ Ts) (hown : s.vm.findClass own = some m.cls) (hK : va_K D vwCl TY s) (hP : va_P D vwCl (mw n ad c) H) {k0 : Nat} (hk0 : k0 < n) {fs : List Value} (he : c k0 = .inr (ci, fs)) (hc : vwCl[ci]? = some (C, T, N)) (k : Nat) (hk : k < N) (hlink : va_Nw (.fieldLinkNest own index ref (T k).2.1 (T k).2.2.1 host) s) (hsame : ∀ x, s.fieldFound? (T k).1 (T k).2.1 (T k).2.2.1 = some x → s.fieldFound? ref (T k).2.1 (T k).2.2.1 = some x) {v : Value} (hv : fs[k]? = some v) (hdg : decode cc pc = .ok (.getfield index, 3))
    (kk : W p l e R s m args below meth cd H locs cells slots Q (F0 m (pc + 3) ls (v :: rest))) : W p l e R s m args below meth cd H locs cells slots Q (F0 m pc ls (.ref (ad k0) :: rest)) :=
  va_getN hexec hb hts hin hown hK hP k0 (mw_at hk0 he) hc k hk (va_Nw.use rfl hlink) hsame hv hdg kk
theorem mx_put (hexec : p.tables.exec = Jvm.exec) (hb : cd.code = cc) {own ref C : String} {T : u_T} {N ci index sz : Nat} {H0 : Heap} {Ts : List Cond} (hts : ∀ w ∈ Ts, w.before args s = true) (hin : ∀ w ∈ u_ws C T N, w ∈ Ts) (ty0 : Nat → FieldType) (hty : ∀ k, k < N → parseFieldDescriptor (T k).2.2.1 = some (ty0 k)) (hnm : ∀ a, a < N → ∀ b, b < N → a ≠ b → (T a).2.1 ≠ (T b).2.1) (hown : s.vm.findClass own = some m.cls) (hK : va_K D vwCl TY s) (hP : va_P D vwCl (mw n ad c) H) (hD : ∀ c, va_D (fun _ => True) (mw n ad c)) (hS : va_S (mA n ad sz) H0 H locs) {k0 : Nat} (hk0 : k0 < n) {fs : List Value} (he : c k0 = .inr (ci, fs)) (hc : vwCl[ci]? = some (C, T, N)) (k : Nat) (hk : k < N) (hlink : (Cond.fieldLink own index ref (T k).2.1 (T k).2.2.1).before args s = true) (hsame : ∀ x, s.fieldFound? (T k).1 (T k).2.1 (T k).2.2.1 = some x → s.fieldFound? ref (T k).2.1 (T k).2.2.1 = some x) (hfin : (T k).2.2.2 = false) {ty : FieldType} {v : Value} (hd : parseFieldDescriptor (T k).2.2.1 = some ty) (hn : narrow ty v = v) (hfit : fits ty v = true) (hl : k < fs.length)
    (hdg : decode cc pc = .ok (.putfield index, 3)) (kk : ∀ (H1 : Heap) (locs1 : List Loc), va_P D vwCl (mw n ad (va_up c k0 (.inr (ci, fs.set k v)))) H1 → va_S (mA n ad sz) H0 H1 locs1 → W p l e R s m args below meth cd H1 locs1 cells slots Q (F0 m (pc + 3) ls rest)) : W p l e R s m args below meth cd H locs cells slots Q (F0 m pc ls (v :: .ref (ad k0) :: rest)) :=
  va_put hexec hb hts hin ty0 hty hnm hown hK hP (mw_DA (hD c) c) hS k0 (mw_at hk0 he) hc k hk hlink hsame hfin hd hn hfit hl hdg (fun H1 locs1 hP1 _ hS1 => kk H1 locs1 (by rw [mw_set hk0] at hP1; exact hP1) hS1)
theorem mx_iald (hexec : p.tables.exec = Jvm.exec) (hb : cd.code = cc) (hK : va_K D vwCl TY s) (hP : va_P D vwCl (mw n ad c) H) {k0 : Nat} (hk0 : k0 < n) (t0 : Nat) {cA : ClassId} {N : Nat} {f : Nat → Int32} (he : c k0 = .inl (cA, N, .inl f)) (ht : TY[t0]? = some (cA, .int)) {i : Int32} (hin : vp_in i N) (hdg : decode cc pc = .ok (.iaload, 1))
    (kk : W p l e R s m args below meth cd H locs cells slots Q (F0 m (pc + 1) ls (.int (f i.toNatClampNeg) :: rest))) : W p l e R s m args below meth cd H locs cells slots Q (F0 m pc ls (.int i :: .ref (ad k0) :: rest)) :=
  va_iald hexec hb hK hP k0 t0 (mw_at hk0 he) ht hin hdg kk
theorem mx_iast (hexec : p.tables.exec = Jvm.exec) (hb : cd.code = cc) {sz : Nat} {H0 : Heap} (hK : va_K D vwCl TY s) (hP : va_P D vwCl (mw n ad c) H) (hD : ∀ c, va_D (fun _ => True) (mw n ad c)) (hS : va_S (mA n ad sz) H0 H locs) {k0 : Nat} (hk0 : k0 < n) (t0 : Nat) {cA : ClassId} {N : Nat} {f : Nat → Int32} (he : c k0 = .inl (cA, N, .inl f)) (ht : TY[t0]? = some (cA, .int)) {i x : Int32} (hin : vp_in i N) (hdg : decode cc pc = .ok (.iastore, 1))
    (kk : ∀ (H1 : Heap) (locs1 : List Loc), va_P D vwCl (mw n ad (va_up c k0 (.inl (cA, N, .inl (upd f i.toNatClampNeg x))))) H1 → va_S (mA n ad sz) H0 H1 locs1 → W p l e R s m args below meth cd H1 locs1 cells slots Q (F0 m (pc + 1) ls rest)) : W p l e R s m args below meth cd H locs cells slots Q (F0 m pc ls (.int x :: .int i :: .ref (ad k0) :: rest)) :=
  va_iast hexec hb hK hP (mw_DA (hD c) c) hS k0 t0 (mw_at hk0 he) ht hin hdg (fun H1 locs1 hP1 _ hS1 => kk H1 locs1 (by rw [mw_set hk0] at hP1; exact hP1) hS1)
theorem mx_alen (hexec : p.tables.exec = Jvm.exec) (hb : cd.code = cc) (hK : va_K D vwCl TY s) (hP : va_P D vwCl (mw n ad c) H) {k0 : Nat} (hk0 : k0 < n) (t0 : Nat) {cA : ClassId} {x : vp_A} (he : c k0 = .inl (cA, x)) {ty : FieldType} (ht : TY[t0]? = some (cA, ty)) {v : Int32} (hv : Int32.ofNat x.1 = v) (hdg : decode cc pc = .ok (.arraylength, 1))
    (kk : W p l e R s m args below meth cd H locs cells slots Q (F0 m (pc + 1) ls (.int v :: rest))) : W p l e R s m args below meth cd H locs cells slots Q (F0 m pc ls (.ref (ad k0) :: rest)) :=
  va_alen hexec hb hK hP k0 t0 (mw_at hk0 he) ht hv hdg kk
theorem mx_aald (hexec : p.tables.exec = Jvm.exec) (hb : cd.code = cc) (hK : va_K D vwCl TY s) (hP : va_P D vwCl (mw n ad c) H) {k0 : Nat} (hk0 : k0 < n) (t0 : Nat) {cA : ClassId} {C : String} {N : Nat} {f : Nat → Option Nat} (he : c k0 = .inl (cA, N, .inr (.inr (.inr (.inr f))))) (ht : TY[t0]? = some (cA, .object C)) {i : Int32} (hin : vp_in i N) (v : Value) (hv : va_rf (f i.toNatClampNeg) = v) (hdg : decode cc pc = .ok (.aaload, 1))
    (kk : W p l e R s m args below meth cd H locs cells slots Q (F0 m (pc + 1) ls (v :: rest))) : W p l e R s m args below meth cd H locs cells slots Q (F0 m pc ls (.int i :: .ref (ad k0) :: rest)) := by
  subst hv
  exact va_aldq hexec hb hK hP k0 t0 (mw_at hk0 he) ht hin hdg kk
theorem mx_bald (hexec : p.tables.exec = Jvm.exec) (hb : cd.code = cc) (hK : va_K D vwCl TY s) (hP : va_P D vwCl (mw n ad c) H) {k0 : Nat} (hk0 : k0 < n) (t0 : Nat) {cA : ClassId} {N : Nat} {f : Nat → Int32} (he : c k0 = .inl (cA, N, .inl f)) (ht : TY[t0]? = some (cA, .byte)) {i : Int32} (hin : vp_in i N) (hdg : decode cc pc = .ok (.baload, 1))
    (kk : W p l e R s m args below meth cd H locs cells slots Q (F0 m (pc + 1) ls (.int (f i.toNatClampNeg) :: rest))) : W p l e R s m args below meth cd H locs cells slots Q (F0 m pc ls (.int i :: .ref (ad k0) :: rest)) :=
  va_bald hexec hb hK hP k0 t0 (mw_at hk0 he) ht hin hdg kk
theorem mx_bast (hexec : p.tables.exec = Jvm.exec) (hb : cd.code = cc) {sz : Nat} {H0 : Heap} (hK : va_K D vwCl TY s) (hP : va_P D vwCl (mw n ad c) H) (hD : ∀ c, va_D (fun _ => True) (mw n ad c)) (hS : va_S (mA n ad sz) H0 H locs) {k0 : Nat} (hk0 : k0 < n) (t0 : Nat) {cA : ClassId} {N : Nat} {f : Nat → Int32} (he : c k0 = .inl (cA, N, .inl f)) (ht : TY[t0]? = some (cA, .byte)) {i x y : Int32} (hin : vp_in i N) (hy : vp_nar .byte x = y) (hdg : decode cc pc = .ok (.bastore, 1))
    (kk : ∀ (H1 : Heap) (locs1 : List Loc), va_P D vwCl (mw n ad (va_up c k0 (.inl (cA, N, .inl (upd f i.toNatClampNeg y))))) H1 → va_S (mA n ad sz) H0 H1 locs1 → W p l e R s m args below meth cd H1 locs1 cells slots Q (F0 m (pc + 1) ls rest)) : W p l e R s m args below meth cd H locs cells slots Q (F0 m pc ls (.int x :: .int i :: .ref (ad k0) :: rest)) := by
  subst hy
  exact va_bast hexec hb hK hP (mw_DA (hD c) c) hS k0 t0 (mw_at hk0 he) ht hin hdg (fun H1 locs1 hP1 _ hS1 => kk H1 locs1 (by rw [mw_set hk0] at hP1; exact hP1) hS1)
/-! ends -/
theorem mx_iret {post : Int32 → (Nat → va_E) → Prop} {r : Int32} (hexec : p.tables.exec = Jvm.exec) (hb : cd.code = cc) (hr : meth.sig.returnType = some .int) (hlocks : meth.locks = false) (hP : va_P D vwCl (mw n ad c) H) (hS : va_S (mA n ad s.heap.size) s.heap H locs) (hpost : post r c) (hdg : decode cc pc = .ok (.ireturn, 1)) :
    W p l e R s m args below meth cd H locs cells slots (MQ below (va_Qi post (mW D n ad) (mA n ad s.heap.size)) args s cells slots (mA n ad s.heap.size)) (F0 m pc ls [.int r]) :=
  W.iret (v := r) hexec hb hr (fun t ht hW => ⟨⟨r, c, rfl, hpost, by show va_P _ _ _ t.heap; rw [ht]; exact hP⟩, hS.F ht⟩) hS.2.2 hdg hlocks
theorem mx_zret {post : Int32 → (Nat → va_E) → Prop} {r : Int32} {ty : FieldType} (hexec : p.tables.exec = Jvm.exec) (hb : cd.code = cc) (hr : meth.sig.returnType = some ty) (hlocks : meth.locks = false) (hn : narrow ty (.int r) = .int r) (hP : va_P D vwCl (mw n ad c) H) (hS : va_S (mA n ad s.heap.size) s.heap H locs) (hpost : post r c) (hdg : decode cc pc = .ok (.ireturn, 1)) :
    W p l e R s m args below meth cd H locs cells slots (MQ below (va_Qi post (mW D n ad) (mA n ad s.heap.size)) args s cells slots (mA n ad s.heap.size)) (F0 m pc ls [.int r]) :=
  W.zret (v := r) hexec hb hr hn (fun t ht hW => ⟨⟨r, c, rfl, hpost, by show va_P _ _ _ t.heap; rw [ht]; exact hP⟩, hS.F ht⟩) hS.2.2 hdg hlocks
theorem mx_vret {post : (Nat → va_E) → Prop} (hexec : p.tables.exec = Jvm.exec) (hb : cd.code = cc) (hr : meth.sig.returnType = none) (hlocks : meth.locks = false) (hP : va_P D vwCl (mw n ad c) H) (hS : va_S (mA n ad s.heap.size) s.heap H locs) (hpost : post c) (hdg : decode cc pc = .ok (.return_, 1)) :
    W p l e R s m args below meth cd H locs cells slots (MQ below (va_Qv post (mW D n ad) (mA n ad s.heap.size)) args s cells slots (mA n ad s.heap.size)) (F0 m pc ls []) :=
  W.vret hexec hb hr (fun t ht hW => ⟨⟨c, rfl, hpost, by show va_P _ _ _ t.heap; rw [ht]; exact hP⟩, hS.F ht⟩) hS.2.2 hdg hlocks
theorem mx_aret {post : Nat → (Nat → va_E) → Prop} {r : Nat} {rt : FieldType} (hexec : p.tables.exec = Jvm.exec) (hb : cd.code = cc) (hr : meth.sig.returnType = some rt) (hrt : (∃ n, rt = .object n) ∨ ∃ t, rt = .array t) (hlocks : meth.locks = false) (hP : va_P D vwCl (mw n ad c) H) (hS : va_S (mA n ad s.heap.size) s.heap H locs) (hpost : post r c) (hdg : decode cc pc = .ok (.areturn, 1)) :
    W p l e R s m args below meth cd H locs cells slots (MQ below (va_Qr (fun _ : Nat → va_E => True) (fun c' a t => post a c' ∧ mW D n ad c' t) (mA n ad s.heap.size)) args s cells slots (mA n ad s.heap.size)) (F0 m pc ls [.ref r]) :=
  W.aret (v := .ref r) hexec hb hr hrt (Or.inr ⟨r, rfl⟩) (fun t ht hW => ⟨⟨c, r, rfl, trivial, hpost, by show va_P _ _ _ t.heap; rw [ht]; exact hP⟩, hS.F ht⟩) hS.2.2 hdg hlocks
/-! calls: what a run of a contract gives -/
theorem mx_ci {post : Int32 → (Nat → va_E) → Prop} {a : Array Value} (hr : va_Run p l e R s m args below meth cd H locs cells slots 0 0 (F0 m pc ls st0) rest (va_Qi post (mW D n ad) (mA n ad H.size) a) (mA n ad H.size)) {sz : Nat} {H0 : Heap} (hsz : sz ≤ H0.size) (hS : va_S (mA n ad sz) H0 H locs)
    (kk : ∀ (r : Int32) (c' : Nat → va_E) (H1 : Heap) (locs1 : List Loc), post r c' → va_P D vwCl (mw n ad c') H1 → va_S (mA n ad sz) H0 H1 locs1 → W p l e R s m args below meth cd H1 locs1 cells slots Q (F0 m (pc + 3) ls (.int r :: rest))) : W p l e R s m args below meth cd H locs cells slots Q (F0 m pc ls st0) :=
  va_calli hr hS (fun q _ h => mA_le (Nat.le_trans hsz hS.1) q h) (fun q h => mA_le (Nat.le_trans hsz hS.1) q h) (fun r u t H1 locs1 ht hvm hw hB hz1 hk1 hS1 => kk r u H1 locs1 hw (by rw [← ht]; exact hB) hS1)
theorem mx_cl {post : Int64 → (Nat → va_E) → Prop} {a : Array Value} (hr : va_Run p l e R s m args below meth cd H locs cells slots 0 0 (F0 m pc ls st0) rest (va_Ql post (mW D n ad) (mA n ad H.size) a) (mA n ad H.size)) {sz : Nat} {H0 : Heap} (hsz : sz ≤ H0.size) (hS : va_S (mA n ad sz) H0 H locs)
    (kk : ∀ (r : Int64) (c' : Nat → va_E) (H1 : Heap) (locs1 : List Loc), post r c' → va_P D vwCl (mw n ad c') H1 → va_S (mA n ad sz) H0 H1 locs1 → W p l e R s m args below meth cd H1 locs1 cells slots Q (F0 m (pc + 3) ls (.long r :: rest))) : W p l e R s m args below meth cd H locs cells slots Q (F0 m pc ls st0) :=
  va_calll hr hS (fun q _ h => mA_le (Nat.le_trans hsz hS.1) q h) (fun q h => mA_le (Nat.le_trans hsz hS.1) q h) (fun r u t H1 locs1 ht hvm hw hB hz1 hk1 hS1 => kk r u H1 locs1 hw (by rw [← ht]; exact hB) hS1)
theorem mx_cv {post : (Nat → va_E) → Prop} {a : Array Value} (hr : va_Run p l e R s m args below meth cd H locs cells slots 0 0 (F0 m pc ls st0) rest (va_Qv post (mW D n ad) (mA n ad H.size) a) (mA n ad H.size)) {sz : Nat} {H0 : Heap} (hsz : sz ≤ H0.size) (hS : va_S (mA n ad sz) H0 H locs)
    (kk : ∀ (c' : Nat → va_E) (H1 : Heap) (locs1 : List Loc), post c' → va_P D vwCl (mw n ad c') H1 → va_S (mA n ad sz) H0 H1 locs1 → W p l e R s m args below meth cd H1 locs1 cells slots Q (F0 m (pc + 3) ls rest)) : W p l e R s m args below meth cd H locs cells slots Q (F0 m pc ls st0) :=
  va_callv hr hS (fun q _ h => mA_le (Nat.le_trans hsz hS.1) q h) (fun q h => mA_le (Nat.le_trans hsz hS.1) q h) (fun u t H1 locs1 ht hvm hw hB hz1 hk1 hS1 => kk u H1 locs1 hw (by rw [← ht]; exact hB) hS1)
theorem mx_cr {post : Nat → (Nat → va_E) → Prop} {a : Array Value} (hr : va_Run p l e R s m args below meth cd H locs cells slots 0 0 (F0 m pc ls st0) rest (va_Qr (fun _ : Nat → va_E => True) (fun c' a t => post a c' ∧ mW D n ad c' t) (mA n ad H.size) a) (mA n ad H.size)) {sz : Nat} {H0 : Heap} (hsz : sz ≤ H0.size) (hS : va_S (mA n ad sz) H0 H locs)
    (kk : ∀ (r : Nat) (c' : Nat → va_E) (H1 : Heap) (locs1 : List Loc), post r c' → va_P D vwCl (mw n ad c') H1 → va_S (mA n ad sz) H0 H1 locs1 → W p l e R s m args below meth cd H1 locs1 cells slots Q (F0 m (pc + 3) ls (.ref r :: rest))) : W p l e R s m args below meth cd H locs cells slots Q (F0 m pc ls st0) :=
  va_callr hr hS (fun q _ h => mA_le (Nat.le_trans hsz hS.1) q h) (fun q h => mA_le (Nat.le_trans hsz hS.1) q h) (fun u ra t H1 locs1 ht hvm hw hB hz1 hk1 hS1 => kk ra u H1 locs1 hB.1 (by rw [← ht]; exact hB.2) hS1)
/-- the caller's side of a contract: receiver and start -/
theorem mx_pv {C : String} {T : u_T} {N ci k0 : Nat} {fs As : List Value} (hK : va_K D vwCl TY s) (hP : va_P D vwCl (mw n ad c) H) (hD : ∀ c, va_D (fun _ => True) (mw n ad c)) (hN : nNS s) (hk0 : k0 < n) (he : c k0 = .inr (ci, fs)) (hc : vwCl[ci]? = some (C, T, N)) : PreV s H C (ad k0) (va_Pc (.ref (ad k0) :: As) (mPre D TY n ad c H.size)) As :=
  ⟨mPre_blind, va_recv hK hP (q := (C, T, N)) hc (mw_at hk0 he), fun U hU hW => ⟨rfl, by rw [hU], by rw [hU]; exact hP, va_K.moved hW.alike hK, hD c, nNS_warm hW hN⟩⟩
theorem mx_ps {As : List Value} (hK : va_K D vwCl TY s) (hP : va_P D vwCl (mw n ad c) H) (hD : ∀ c, va_D (fun _ => True) (mw n ad c)) (hN : nNS s) : PreS s H (va_Pc As (mPre D TY n ad c H.size)) As :=
  ⟨mPre_blind, fun U hU hW => ⟨rfl, by rw [hU], by rw [hU]; exact hP, va_K.moved hW.alike hK, hD c, nNS_warm hW hN⟩⟩
end MX
/-! methods that make cells: the world grows, what may change is A -/
def mNew (l : Launch) (y : MethodName) (ws : List Cond) (rm : Room) (av : List Value) (D : va_G) (TY : List (ClassId × FieldType)) (n : Nat) (ad : Nat → Nat) (c : Nat → va_E) (n2 : Nat) (post : (Nat → Nat) → (Nat → va_E) → Prop) (mc ms : Nat) : Prop :=
  ∀ sz, Met l y ws rm (va_Pc av (mPre D TY n ad c sz)) (va_Qv (fun u : (Nat → Nat) × (Nat → va_E) => post u.1 u.2) (fun u t => va_P D vwCl (mw n2 u.1 u.2) t.heap ∧ va_D (mA n ad sz) (mw n2 u.1 u.2)) (mA n ad sz)) mc ms (mA n ad sz)
section MG
variable {p : Program} {l : Launch} {e : Env} {R : Room} {s : State} {m : MethodId} {args : Array Value} {below : List Frame} {meth : Method} {cd : Code} {H : Heap} {locs : List Loc} {cells slots : Nat} {Q : State → Prop}
variable {cc : ByteArray} {pc : Nat} {ls : Array Slot} {rest st0 : List Value} {D : va_G} {TY : List (ClassId × FieldType)} {n : Nat} {ad : Nat → Nat} {c : Nat → va_E} {A : Nat → Prop} {H0 : Heap}
theorem mg_A (hS : va_S A H0 H locs) (hA : ∀ q, H0.size ≤ q → A q) (hD : va_D A (mw n ad c)) : ∀ q, mA n ad H.size q → A q := by
  intro q h
  rcases h with ⟨k, hk, rfl⟩ | h
  · exact hD.2 k _ (mw_at hk rfl)
  · exact hA q (Nat.le_trans hS.1 h)
theorem mg_new (hexec : p.tables.exec = Jvm.exec) (hb : cd.code = cc) {own C : String} {T : u_T} {N ci index : Nat} {Ts : List Cond} (hts : ∀ w ∈ Ts, w.before args s = true) (hin : ∀ w ∈ u_ws C T N, w ∈ Ts) (ty : Nat → FieldType) (hty : ∀ k, k < N → parseFieldDescriptor (T k).2.2.1 = some (ty k)) (hown : s.vm.findClass own = some m.cls) (hcl : (Cond.classLink own index C).before args s = true) (hinst : (Cond.instantiable C N).before args s = true) (hini : (Cond.initialized C).before args s = true)
    (hK : va_K D vwCl TY s) (hP : va_P D vwCl (mw n ad c) H) (hD : va_D A (mw n ad c)) (hS : va_S A H0 H locs) (hA : ∀ q, H0.size ≤ q → A q) (hc : vwCl[ci]? = some (C, T, N)) {fs : List Value} (hfs : ∀ j, j < N → defaultValue (ty j) = vp_V fs j) (hcells : cells + 1 ≤ R.cells) (hslots : slots + N ≤ R.slots) (hdg : decode cc pc = .ok (.new index, 3))
    (kk : ∀ (ad1 : Nat → Nat) (c1 : Nat → va_E) (H1 : Heap), (∀ k, k < n → ad1 k = ad k) → (∀ k, k < n → c1 k = c k) → c1 n = .inr (ci, fs) → va_P D vwCl (mw (n + 1) ad1 c1) H1 → va_D A (mw (n + 1) ad1 c1) → va_S A H0 H1 locs →
      W p l e R s m args below meth cd H1 locs (cells + 1) (slots + N) Q (F0 m (pc + 3) ls (.ref (ad1 n) :: rest))) : W p l e R s m args below meth cd H locs cells slots Q (F0 m pc ls rest) :=
  va_new hexec hb hts hin ty hty hown hcl hinst hini hK hP hD hS hA hc hfs hcells hslots hdg (fun q H1 hP1 hD1 hS1 => by
    have h := kk (va_up ad n q) (va_up c n (.inr (ci, fs))) H1 (fun k hk => va_up_ne _ _ (Nat.ne_of_lt hk)) (fun k hk => va_up_ne _ _ (Nat.ne_of_lt hk)) (va_up_self _ _ _) (by rw [← mw_push]; exact hP1) (by rw [← mw_push]; exact hD1) hS1
    rw [va_up_self] at h
    exact h)
theorem mg_RA {cA cB : ClassId} {ty : FieldType} (h1 : va_RA s cA ty) (h2 : va_RA s cB ty) : cA = cB := by
  cases ty with
  | object C =>
    obtain ⟨k1, p1, -, -, -, e1⟩ := h1
    obtain ⟨k2, p2, -, -, -, e2⟩ := h2
    exact Option.some.inj (e1.symm.trans e2)
  | _ => exact Option.some.inj (Eq.trans (Eq.symm h1) h2)
theorem mg_newi (hexec : p.tables.exec = Jvm.exec) (hb : cd.code = cc) {atype : ArrayType} (harr : (Cond.arrayClass (newarray.typeOf atype)).before args s = true) (hty : newarray.typeOf atype = .int) (hK : va_K D vwCl TY s) (hP : va_P D vwCl (mw n ad c) H) (hD : va_D A (mw n ad c)) (hS : va_S A H0 H locs) (hA : ∀ q, H0.size ≤ q → A q) (t0 : Nat) {cA : ClassId} (ht : TY[t0]? = some (cA, .int))
    {x : Int32} {N' : Nat} (hn : ¬ x < 0) (hN : x.toNatClampNeg = N') (hbytes : N' * componentBytes .int ≤ 536870912) (hcells : cells + 1 ≤ R.cells) (hslots : slots + N' ≤ R.slots) (hdg : decode cc pc = .ok (.newarray atype, 2))
    (kk : ∀ (ad1 : Nat → Nat) (c1 : Nat → va_E) (H1 : Heap), (∀ k, k < n → ad1 k = ad k) → (∀ k, k < n → c1 k = c k) → c1 n = .inl (cA, N', .inl (fun _ => 0)) → va_P D vwCl (mw (n + 1) ad1 c1) H1 → va_D A (mw (n + 1) ad1 c1) → va_S A H0 H1 locs →
      W p l e R s m args below meth cd H1 locs (cells + 1) (slots + N') Q (F0 m (pc + 2) ls (.ref (ad1 n) :: rest))) : W p l e R s m args below meth cd H locs cells slots Q (F0 m pc ls (.int x :: rest)) :=
  va_newa hexec hb harr hty hK hP hD hS hA (a0 := (N', .inl (fun _ => 0))) (fun cA => rfl) hn hN hbytes hcells hslots hdg (fun q cB H1 hK1 hP1 hD1 hS1 => by
    have hBA : cB = cA := mg_RA (ty := .int) (hK1.2 TY.length (cB, .int) (by rw [List.getElem?_append_right (Nat.le_refl _), Nat.sub_self]; rfl)).2 (hK.2 t0 _ ht).2
    subst hBA
    have h := kk (va_up ad n q) (va_up c n (.inl (cB, N', .inl (fun _ => 0)))) H1 (fun k hk => va_up_ne _ _ (Nat.ne_of_lt hk)) (fun k hk => va_up_ne _ _ (Nat.ne_of_lt hk)) (va_up_self _ _ _) (by rw [← mw_push]; exact hP1) (by rw [← mw_push]; exact hD1) hS1
    rw [va_up_self] at h
    exact h)
theorem mg_newq (hexec : p.tables.exec = Jvm.exec) (hb : cd.code = cc) {own C : String} {index : Nat} (hown : s.vm.findClass own = some m.cls) (hclink : (Cond.classLink own index C).before args s = true) (hover : va_AO C s) (hK : va_K D vwCl TY s) (hP : va_P D vwCl (mw n ad c) H) (hD : va_D A (mw n ad c)) (hS : va_S A H0 H locs) (hA : ∀ q, H0.size ≤ q → A q) (t0 : Nat) {cA : ClassId} (ht : TY[t0]? = some (cA, .object C))
    {x : Int32} {N' : Nat} (hn : ¬ x < 0) (hN : x.toNatClampNeg = N') (hbytes : N' * 4 ≤ 536870912) (hcells : cells + 1 ≤ R.cells) (hslots : slots + N' ≤ R.slots) (hdg : decode cc pc = .ok (.anewarray index, 3))
    (kk : ∀ (ad1 : Nat → Nat) (c1 : Nat → va_E) (H1 : Heap), (∀ k, k < n → ad1 k = ad k) → (∀ k, k < n → c1 k = c k) → c1 n = .inl (cA, N', .inr (.inr (.inr (.inr (fun _ => none))))) → va_P D vwCl (mw (n + 1) ad1 c1) H1 → va_D A (mw (n + 1) ad1 c1) → va_S A H0 H1 locs →
      W p l e R s m args below meth cd H1 locs (cells + 1) (slots + N') Q (F0 m (pc + 3) ls (.ref (ad1 n) :: rest))) : W p l e R s m args below meth cd H locs cells slots Q (F0 m pc ls (.int x :: rest)) :=
  va_newq hexec hb hown hclink hover hK hP hD hS hA hn hN hbytes hcells hslots hdg (fun q cB H1 hK1 hP1 hD1 hS1 => by
    have hBA : cB = cA := mg_RA (ty := .object C) (hK1.2 TY.length (cB, .object C) (by rw [List.getElem?_append_right (Nat.le_refl _), Nat.sub_self]; rfl)).2 (hK.2 t0 _ ht).2
    subst hBA
    have h := kk (va_up ad n q) (va_up c n (.inl (cB, N', .inr (.inr (.inr (.inr (fun _ => none))))))) H1 (fun k hk => va_up_ne _ _ (Nat.ne_of_lt hk)) (fun k hk => va_up_ne _ _ (Nat.ne_of_lt hk)) (va_up_self _ _ _) (by rw [← mw_push]; exact hP1) (by rw [← mw_push]; exact hD1) hS1
    rw [va_up_self] at h
    exact h)
theorem mg_put (hexec : p.tables.exec = Jvm.exec) (hb : cd.code = cc) {own ref C : String} {T : u_T} {N ci index : Nat} {Ts : List Cond} (hts : ∀ w ∈ Ts, w.before args s = true) (hin : ∀ w ∈ u_ws C T N, w ∈ Ts) (ty0 : Nat → FieldType) (hty : ∀ k, k < N → parseFieldDescriptor (T k).2.2.1 = some (ty0 k)) (hnm : ∀ a, a < N → ∀ b, b < N → a ≠ b → (T a).2.1 ≠ (T b).2.1) (hown : s.vm.findClass own = some m.cls) (hK : va_K D vwCl TY s) (hP : va_P D vwCl (mw n ad c) H) (hD : va_D A (mw n ad c)) (hS : va_S A H0 H locs) {k0 a : Nat} (hk0 : k0 < n) (ha : ad k0 = a) {fs : List Value} (he : c k0 = .inr (ci, fs)) (hc : vwCl[ci]? = some (C, T, N)) (k : Nat) (hk : k < N) (hlink : (Cond.fieldLink own index ref (T k).2.1 (T k).2.2.1).before args s = true) (hsame : ∀ x, s.fieldFound? (T k).1 (T k).2.1 (T k).2.2.1 = some x → s.fieldFound? ref (T k).2.1 (T k).2.2.1 = some x) (hfin : (T k).2.2.2 = false) {ty : FieldType} {v : Value} (hd : parseFieldDescriptor (T k).2.2.1 = some ty) (hn : narrow ty v = v) (hfit : fits ty v = true) (hl : k < fs.length)
    (hdg : decode cc pc = .ok (.putfield index, 3)) (kk : ∀ (c1 : Nat → va_E) (H1 : Heap) (locs1 : List Loc), (∀ j, j ≠ k0 → c1 j = c j) → c1 k0 = .inr (ci, fs.set k v) → va_P D vwCl (mw n ad c1) H1 → va_D A (mw n ad c1) → va_S A H0 H1 locs1 → W p l e R s m args below meth cd H1 locs1 cells slots Q (F0 m (pc + 3) ls rest)) : W p l e R s m args below meth cd H locs cells slots Q (F0 m pc ls (v :: .ref a :: rest)) := by
  subst ha
  exact va_put hexec hb hts hin ty0 hty hnm hown hK hP hD hS k0 (mw_at hk0 he) hc k hk hlink hsame hfin hd hn hfit hl hdg (fun H1 locs1 hP1 _ hS1 => kk (va_up c k0 (.inr (ci, fs.set k v))) H1 locs1 (fun j hj => va_up_ne _ _ hj) (va_up_self _ _ _) (by rw [mw_set hk0] at hP1; exact hP1) (mw_D hD _) hS1)
theorem mg_putF (hexec : p.tables.exec = Jvm.exec) (hb : cd.code = cc) {own ref C : String} {T : u_T} {N ci index : Nat} {Ts : List Cond} (hts : ∀ w ∈ Ts, w.before args s = true) (hin : ∀ w ∈ u_ws C T N, w ∈ Ts) (ty0 : Nat → FieldType) (hty : ∀ k, k < N → parseFieldDescriptor (T k).2.2.1 = some (ty0 k)) (hnm : ∀ a, a < N → ∀ b, b < N → a ≠ b → (T a).2.1 ≠ (T b).2.1) (hown : s.vm.findClass own = some m.cls) (hK : va_K D vwCl TY s) (hP : va_P D vwCl (mw n ad c) H) (hD : va_D A (mw n ad c)) (hS : va_S A H0 H locs) {k0 a : Nat} (hk0 : k0 < n) (ha : ad k0 = a) {fs : List Value} (he : c k0 = .inr (ci, fs)) (hc : vwCl[ci]? = some (C, T, N)) (k : Nat) (hk : k < N) (hlink : (Cond.fieldLink own index ref (T k).2.1 (T k).2.2.1).before args s = true) (hsame : ∀ x, s.fieldFound? (T k).1 (T k).2.1 (T k).2.2.1 = some x → s.fieldFound? ref (T k).2.1 (T k).2.2.1 = some x) (hfin : (T k).2.2.2 = true) (hin2 : meth.name = "<init>") (hdecl : (T k).1 = own) {ty : FieldType} {v : Value} (hd : parseFieldDescriptor (T k).2.2.1 = some ty) (hn : narrow ty v = v) (hfit : fits ty v = true) (hl : k < fs.length)
    (hdg : decode cc pc = .ok (.putfield index, 3)) (kk : ∀ (c1 : Nat → va_E) (H1 : Heap) (locs1 : List Loc), (∀ j, j ≠ k0 → c1 j = c j) → c1 k0 = .inr (ci, fs.set k v) → va_P D vwCl (mw n ad c1) H1 → va_D A (mw n ad c1) → va_S A H0 H1 locs1 → W p l e R s m args below meth cd H1 locs1 cells slots Q (F0 m (pc + 3) ls rest)) : W p l e R s m args below meth cd H locs cells slots Q (F0 m pc ls (v :: .ref a :: rest)) := by
  subst ha
  exact va_putF hexec hb hts hin ty0 hty hnm hown hK hP hD hS k0 (mw_at hk0 he) hc k hk hlink hsame hfin hin2 hdecl hd hn hfit hl hdg (fun H1 locs1 hP1 _ hS1 => kk (va_up c k0 (.inr (ci, fs.set k v))) H1 locs1 (fun j hj => va_up_ne _ _ hj) (va_up_self _ _ _) (by rw [mw_set hk0] at hP1; exact hP1) (mw_D hD _) hS1)
theorem mg_aast (hexec : p.tables.exec = Jvm.exec) (hb : cd.code = cc) (hK : va_K D vwCl TY s) (hP : va_P D vwCl (mw n ad c) H) (hD : va_D A (mw n ad c)) (hS : va_S A H0 H locs) {k0 a kv v ci : Nat} (t0 : Nat) (hk0 : k0 < n) (ha : ad k0 = a) (hkv : kv < n) (hav : ad kv = v) {cA : ClassId} {r : vw_C} {N : Nat} {vs : List Value} {f : Nat → Option Nat} (he : c k0 = .inl (cA, N, .inr (.inr (.inr (.inr f))))) (ht : TY[t0]? = some (cA, .object r.1)) (hev : c kv = .inr (ci, vs)) (hc : vwCl[ci]? = some r) {i : Int32} (hin : vp_in i N) (hdg : decode cc pc = .ok (.aastore, 1))
    (kk : ∀ (c1 : Nat → va_E) (H1 : Heap) (locs1 : List Loc), (∀ j, j ≠ k0 → c1 j = c j) → c1 k0 = .inl (cA, N, .inr (.inr (.inr (.inr (va_up f i.toNatClampNeg (some v)))))) → va_P D vwCl (mw n ad c1) H1 → va_D A (mw n ad c1) → va_S A H0 H1 locs1 → W p l e R s m args below meth cd H1 locs1 cells slots Q (F0 m (pc + 1) ls rest)) : W p l e R s m args below meth cd H locs cells slots Q (F0 m pc ls (.ref v :: .int i :: .ref a :: rest)) := by
  subst ha
  subst hav
  exact va_astq hexec hb hK hP hD hS k0 t0 kv ci (mw_at hk0 he) ht (mw_at hkv hev) hc hin hdg (fun H1 locs1 hP1 _ hS1 => kk (va_up c k0 (.inl (cA, N, .inr (.inr (.inr (.inr (va_up f i.toNatClampNeg (some (ad kv))))))))) H1 locs1 (fun j hj => va_up_ne _ _ hj) (va_up_self _ _ _) (by rw [mw_set hk0] at hP1; exact hP1) (mw_D hD _) hS1)
/-- a call of a method that makes cells -/
theorem mg_cv {post : (Nat → Nat) → (Nat → va_E) → Prop} {a : Array Value} {n2 mc ms : Nat} (hr : va_Run p l e R s m args below meth cd H locs cells slots mc ms (F0 m pc ls st0) rest (va_Qv (fun u : (Nat → Nat) × (Nat → va_E) => post u.1 u.2) (fun u t => va_P D vwCl (mw n2 u.1 u.2) t.heap ∧ va_D (mA n ad H.size) (mw n2 u.1 u.2)) (mA n ad H.size) a) (mA n ad H.size)) (hS : va_S A H0 H locs) (hA : ∀ q, H0.size ≤ q → A q) (hD : va_D A (mw n ad c))
    (kk : ∀ (ad1 : Nat → Nat) (c1 : Nat → va_E) (H1 : Heap) (locs1 : List Loc), post ad1 c1 → va_P D vwCl (mw n2 ad1 c1) H1 → va_D A (mw n2 ad1 c1) → va_S A H0 H1 locs1 → W p l e R s m args below meth cd H1 locs1 (cells + mc) (slots + ms) Q (F0 m (pc + 3) ls rest)) : W p l e R s m args below meth cd H locs cells slots Q (F0 m pc ls st0) :=
  va_callv hr hS (fun q _ h => mg_A hS hA hD q h) (fun q h => mg_A hS hA hD q h) (fun u t H1 locs1 ht hvm hw hB hz1 hk1 hS1 => kk u.1 u.2 H1 locs1 hw (by rw [← ht]; exact hB.1) (hB.2.weaken (fun _ _ _ h => mg_A hS hA hD _ h)) hS1)
theorem mg_c0 {post : (Nat → va_E) → Prop} {a : Array Value} (hr : va_Run p l e R s m args below meth cd H locs cells slots 0 0 (F0 m pc ls st0) rest (va_Qv post (mW D n ad) (mA n ad H.size) a) (mA n ad H.size)) (hS : va_S A H0 H locs) (hA : ∀ q, H0.size ≤ q → A q) (hD : va_D A (mw n ad c))
    (kk : ∀ (c1 : Nat → va_E) (H1 : Heap) (locs1 : List Loc), post c1 → va_P D vwCl (mw n ad c1) H1 → va_D A (mw n ad c1) → va_S A H0 H1 locs1 → W p l e R s m args below meth cd H1 locs1 cells slots Q (F0 m (pc + 3) ls rest)) : W p l e R s m args below meth cd H locs cells slots Q (F0 m pc ls st0) :=
  va_callv hr hS (fun q _ h => mg_A hS hA hD q h) (fun q h => mg_A hS hA hD q h) (fun u t H1 locs1 ht hvm hw hB hz1 hk1 hS1 => kk u H1 locs1 hw (by rw [← ht]; exact hB) (mw_D hD u) hS1)
theorem mg_ps {As : List Value} (hK : va_K D vwCl TY s) (hP : va_P D vwCl (mw n ad c) H) (hD : va_D A (mw n ad c)) (hN : nNS s) : PreS s H (va_Pc As (mPre D TY n ad c H.size)) As :=
  ⟨mPre_blind, fun U hU hW => ⟨rfl, by rw [hU], by rw [hU]; exact hP, va_K.moved hW.alike hK, hD.weaken (fun _ _ _ _ => trivial), nNS_warm hW hN⟩⟩
theorem mg_ci {post : (Nat → Nat) → (Nat → va_E) → Prop} {n2 mc ms nL na index maxL : Nat} {y : MethodName} {ws Ts : List Cond} {rm : Room} {own : String} {bytes : ByteArray} {b : Nat} {As : List Value} (S : CallFix p m cd cc nL s args Ts own) (hM : mNew l y ws rm (.ref b :: As) D TY n ad c n2 post mc ms) (cw : CallB R s args own index y bytes maxL none ws rm mc ms na ∧ y.name = "<init>" ∧ (Cond.instanceMethod y).before args s = true) (hK : va_K D vwCl TY s) (hP : va_P D vwCl (mw n ad c) H) (hD : va_D A (mw n ad c)) (hN : nNS s) (hS : va_S A H0 H locs) (hA : ∀ q, H0.size ≤ q → A q) (hn : As.length = na) (hsize : ls.size = nL) (hst : st0 = As.reverse ++ .ref b :: rest) (hW : 2 * (F0 m pc ls st0).monitorRoom + (rest.map fun v => v.category).sum ≤ 8) (hdg : decode cc pc = .ok (.invokespecial index, 3)) (hf : cells + mc ≤ R.cells ∧ slots + ms ≤ R.slots)
    (kk : ∀ (ad1 : Nat → Nat) (c1 : Nat → va_E) (H1 : Heap) (locs1 : List Loc), post ad1 c1 → va_P D vwCl (mw n2 ad1 c1) H1 → va_D A (mw n2 ad1 c1) → va_S A H0 H1 locs1 → W p l e R s m args below meth cd H1 locs1 (cells + mc) (slots + ms) Q (F0 m (pc + 3) ls rest)) : W p l e R s m args below meth cd H locs cells slots Q (F0 m pc ls st0) :=
  mg_cv (post := post) (va_runI S (hM H.size) cw (mg_ps hK hP hD hN) rfl hn hsize hst hW hdg hf) hS hA hD kk
theorem mg_vret {post : (Nat → Nat) → (Nat → va_E) → Prop} {n0 : Nat} {ad0 : Nat → Nat} (hexec : p.tables.exec = Jvm.exec) (hb : cd.code = cc) (hr : meth.sig.returnType = none) (hlocks : meth.locks = false) (hP : va_P D vwCl (mw n ad c) H) (hD : va_D (mA n0 ad0 s.heap.size) (mw n ad c)) (hS : va_S (mA n0 ad0 s.heap.size) s.heap H locs) (hpost : post ad c) (hdg : decode cc pc = .ok (.return_, 1)) :
    W p l e R s m args below meth cd H locs cells slots (MQ below (va_Qv (fun u : (Nat → Nat) × (Nat → va_E) => post u.1 u.2) (fun u t => va_P D vwCl (mw n u.1 u.2) t.heap ∧ va_D (mA n0 ad0 s.heap.size) (mw n u.1 u.2)) (mA n0 ad0 s.heap.size)) args s cells slots (mA n0 ad0 s.heap.size)) (F0 m pc ls []) :=
  W.vret hexec hb hr (fun t ht hW => ⟨⟨(ad, c), rfl, hpost, by show va_P _ _ _ t.heap; rw [ht]; exact hP, hD⟩, hS.F ht⟩) hS.2.2 hdg hlocks
end MG
end
section
/-! out of kit/laws/BITS.to-paste: Int64 as an unsigned number -/
def uN (x : Int64) : Nat := x.toUInt64.toNat
theorem uN_lt (x : Int64) : uN x < 18446744073709551616 := x.toUInt64.toNat_lt
theorem uN_inj {x y : Int64} (h : uN x = uN y) : x = y := congrArg UInt64.toInt64 (UInt64.toNat_inj.mp h)
theorem uN_shr (x : Int64) (s : UInt64) : uN (x.toUInt64 >>> s).toInt64 = uN x / 2 ^ (s.toNat % 64) := by
  show (x.toUInt64 >>> s).toNat = _
  rw [UInt64.toNat_shiftRight, Nat.shiftRight_eq_div_pow]
  rfl
theorem uN_sk (x : Int64) {k : Nat} (hk : k < 64) : uN (x.toUInt64 >>> ((nI k).toInt64.toUInt64 &&& Int64.toUInt64 63)).toInt64 = uN x / 2 ^ k := by
  have h : ((nI k).toInt64.toUInt64 &&& Int64.toUInt64 63).toNat % 64 = k := by
    rw [nI_l (by omega), UInt64.toNat_and]
    have e : (lN k).toUInt64.toNat = k % 2 ^ 64 := rfl
    have e2 : (Int64.toUInt64 63).toNat = 2 ^ 6 - 1 := by decide
    rw [e, e2, Nat.and_two_pow_sub_one_eq_mod]
    omega
  rw [uN_shr, h]
/-! bytes and texts -/
def by8 (b : Int32) : Nat := b.toBitVec.toNat % 256
theorem by8_and (b : Int32) : b &&& 255 = nI (by8 b) := pk_and b (m := 255) 8 (by decide)
theorem by8_lt (b : Int32) : by8 b < 256 := Nat.mod_lt _ (by decide)
theorem by8_nI {x : Nat} (h : x < 256) : by8 (nI x) = x := by
  unfold by8
  rw [pk_tn (by omega)]
  omega
def tTx (ca : Nat → ClassId) (ad : Nat → Nat) (c : Nat → va_E) (k cap : Nat) (t : List Nat) : Prop :=
  t.length ≤ cap ∧ cap < 1048576 ∧ (∀ x ∈ t, x < 256) ∧ c k = .inr (tCT, [.ref (ad (k + 1)), .int (nI t.length)]) ∧ ∃ f : Nat → Int32, c (k + 1) = .inl (ca 0, cap, .inl f) ∧ ∀ j, j < t.length → f j = nI (t.getD j 0)
theorem tTx.keep {ca : Nat → ClassId} {ad : Nat → Nat} {c c' : Nat → va_E} {k cap : Nat} {t : List Nat} (h : tTx ca ad c k cap t) (h1 : c' k = c k) (h2 : c' (k + 1) = c (k + 1)) : tTx ca ad c' k cap t := by
  obtain ⟨a, b, b2, d, f, e, g⟩ := h
  exact ⟨a, b, b2, h1.trans d, f, h2.trans e, g⟩
theorem tTx.mv {ca : Nat → ClassId} {ad ad' : Nat → Nat} {c c' : Nat → va_E} {k cap : Nat} {t : List Nat} (h : tTx ca ad c k cap t) (ha : ad' (k + 1) = ad (k + 1)) (h1 : c' k = c k) (h2 : c' (k + 1) = c (k + 1)) : tTx ca ad' c' k cap t := by
  obtain ⟨a, b, b2, d, f, e, g⟩ := h
  exact ⟨a, b, b2, by rw [h1, d, ha], f, h2.trans e, g⟩
theorem tTx.cell {ca : Nat → ClassId} {ad : Nat → Nat} {c : Nat → va_E} {k cap : Nat} {t : List Nat} (h : tTx ca ad c k cap t) : c k = .inr (tCT, [.ref (ad (k + 1)), .int (nI t.length)]) := h.2.2.2.1
theorem tTx.le {ca : Nat → ClassId} {ad : Nat → Nat} {c : Nat → va_E} {k cap : Nat} {t : List Nat} (h : tTx ca ad c k cap t) : t.length ≤ cap := h.1
theorem tTx.cap {ca : Nat → ClassId} {ad : Nat → Nat} {c : Nat → va_E} {k cap : Nat} {t : List Nat} (h : tTx ca ad c k cap t) : cap < 1048576 := h.2.1
theorem tTx.b8 {ca : Nat → ClassId} {ad : Nat → Nat} {c : Nat → va_E} {k cap : Nat} {t : List Nat} (h : tTx ca ad c k cap t) : ∀ x ∈ t, x < 256 := h.2.2.1
/-- nothing but a text's two cells has changed -/
def tSm (c c' : Nat → va_E) (k : Nat) : Prop := ∀ j, j ≠ k → j ≠ k + 1 → c' j = c j
theorem tSm.rf {c : Nat → va_E} {k : Nat} : tSm c c k := fun _ _ _ => rfl
theorem tSm.tr {c c' c'' : Nat → va_E} {k : Nat} (h : tSm c c' k) (h' : tSm c' c'' k) : tSm c c'' k := fun j h1 h2 => (h' j h1 h2).trans (h j h1 h2)
/-- byte i of a text, or -1 -/
def tAt (t : List Nat) (i : Nat) : Int32 := if i < t.length then nI (t.getD i 0) else -1
def tAtI (t : List Nat) (i : Int32) : Int32 := if i < 0 then -1 else tAt t i.toNatClampNeg
theorem tAtI_nI {t : List Nat} {i : Nat} (h : i < 2 ^ 31) : tAtI t (nI i) = tAt t i := by
  unfold tAtI
  rw [if_neg (nI_pos h), nI_clamp h]
theorem tAtI_neg {t : List Nat} {x : Int32} (h : x < 0) : tAtI t x = -1 := if_pos h
theorem tAtI_big {t : List Nat} {x : Int32} (h0 : ¬ x < 0) (h : nI t.length ≤ x) (hl : t.length < 2 ^ 31) : tAtI t x = -1 := by
  obtain ⟨j, hj, rfl⟩ := nI_of h0
  rw [tAtI_nI hj]
  exact if_neg (by have := (nI_leI hl hj).mp h; omega)
theorem tAtI_in {t : List Nat} {x : Int32} (h0 : ¬ x < 0) (h : ¬ nI t.length ≤ x) (hl : t.length < 2 ^ 31) : ∃ j, j < t.length ∧ x = nI j ∧ tAtI t x = nI (t.getD j 0) := by
  obtain ⟨j, hj, rfl⟩ := nI_of h0
  have hlt : j < t.length := by
    rcases Nat.lt_or_ge j t.length with h9 | h9
    · exact h9
    · exact absurd (nI_le h9 hj) h
  exact ⟨j, hlt, rfl, by rw [tAtI_nI hj]; exact if_pos hlt⟩
theorem tk_getD {t : List Nat} {i j : Nat} (h : i < j) : (t.take j).getD i 0 = t.getD i 0 := by
  simp [List.getD_eq_getElem?_getD, List.getElem?_take, h]
theorem gD_mem {t : List Nat} {i : Nat} (h : i < t.length) : t.getD i 0 ∈ t := by
  rw [List.getD_eq_getElem?_getD, List.getElem?_eq_getElem h]
  exact List.getElem_mem h
theorem tk_succ {t : List Nat} {i : Nat} (h : i < t.length) : t.take (i + 1) = t.take i ++ [t.getD i 0] := by
  rw [List.take_add_one, List.getElem?_eq_getElem h, List.getD_eq_getElem?_getD, List.getElem?_eq_getElem h]
  rfl
theorem tb_app {t : List Nat} {b : Nat} (h : ∀ x ∈ t, x < 256) (hb : b < 256) : ∀ x ∈ t ++ [b], x < 256 := by
  intro x hx
  rcases List.mem_append.mp hx with h1 | h1
  · exact h x h1
  · rw [List.mem_singleton.mp h1]; exact hb
theorem tUpd {t : List Nat} {b : Nat} {f : Nat → Int32} (hf : ∀ j, j < t.length → f j = nI (t.getD j 0)) (hl : t.length < 2 ^ 31) : ∀ j, j < (t ++ [b]).length → upd f (nI t.length).toNatClampNeg (nI b) j = nI ((t ++ [b]).getD j 0) := by
  intro j hj
  rw [nI_clamp hl]
  by_cases h : j = t.length
  · subst h
    rw [pk_us, List.getD_eq_getElem?_getD, List.getElem?_append_right (Nat.le_refl _), Nat.sub_self]
    rfl
  · rw [List.length_append] at hj
    have hj2 : j < t.length := by simp at hj; omega
    rw [pk_un h, hf j hj2, List.getD_eq_getElem?_getD, List.getD_eq_getElem?_getD, List.getElem?_append_left hj2]
def tFour (x : Int32) : List Nat := [by8 (x.toUInt32 >>> ((24 : Int32).toUInt32 &&& Int32.toUInt32 31)).toInt32, by8 (x.toUInt32 >>> ((16 : Int32).toUInt32 &&& Int32.toUInt32 31)).toInt32, by8 (x.toUInt32 >>> ((8 : Int32).toUInt32 &&& Int32.toUInt32 31)).toInt32, by8 x]
/-! digits, the highest first, without 0s ahead -/
def bI (b : Bool) : Int32 := if b then 1 else 0
def dgF (dig ch : Nat → Nat) : Nat → Bool → List Nat
  | 0, _ => []
  | e + 1, b => if (b || (dig e != 0) || (e == 0)) = true then ch (dig e) :: dgF dig ch e true else dgF dig ch e false
theorem dgF_t {dig ch : Nat → Nat} {e : Nat} {b : Bool} (h : b = true ∨ dig e ≠ 0 ∨ e = 0) : dgF dig ch (e + 1) b = ch (dig e) :: dgF dig ch e true := by
  show (if _ then _ else _) = _
  rw [if_pos]
  rcases h with h | h | h
  · simp [h]
  · simp [h]
  · simp [h]
theorem dgF_f {dig ch : Nat → Nat} {e : Nat} {b : Bool} (hb : b = false) (h1 : dig e = 0) (h2 : e ≠ 0) : dgF dig ch (e + 1) b = dgF dig ch e false := by
  show (if _ then _ else _) = _
  rw [if_neg]
  simp [hb, h1, h2]
theorem dgF_len {dig ch : Nat → Nat} : ∀ (e : Nat) (b : Bool), (dgF dig ch e b).length ≤ e
  | 0, _ => Nat.le_refl 0
  | e + 1, b => by
    show (if _ then _ else _ : List Nat).length ≤ _
    split
    · have := dgF_len (dig := dig) (ch := ch) e true
      simp only [List.length_cons]; omega
    · have := dgF_len (dig := dig) (ch := ch) e false
      omega
theorem bI_ne {b : Bool} (h : ¬ bI b = 0) : b = true := by
  cases b
  · exact absurd rfl h
  · rfl
theorem bI_eq {b : Bool} (h : bI b = 0) : b = false := by
  cases b
  · rfl
  · exact absurd h (by decide)
/-- the units of the decimal places: 0 behind the last -/
def tU (e : Nat) : Int64 := match e with
  | 0 => 0
  | e + 1 => lN (10 ^ e)
theorem tU_step : ∀ e, e < 19 → tU (e + 1) / 10 = tU e := by decide +kernel
theorem tU_pos : ∀ e, e < 19 → ¬ tU (e + 1) ≤ 0 := by decide +kernel
theorem tU_one : ∀ e, e < 19 → (tU (e + 1) = 1 ↔ e = 0) := by decide +kernel
theorem tU_ne : ∀ e, e < 19 → ¬ tU (e + 1) = 0 := by decide +kernel
theorem tU_int : ∀ e, e < 19 → (tU (e + 1)).toInt = ((10 ^ e : Nat) : Int) := by decide +kernel
def dDig (v : Int64) (e : Nat) : Nat := v.toInt.natAbs / 10 ^ e % 10
def dCh (d : Nat) : Nat := 48 + d
def tDec (v : Int64) : List Nat := dgF (dDig v) dCh 19 false
theorem dDig_lt (v : Int64) (e : Nat) : dDig v e < 10 := Nat.mod_lt _ (by decide)
theorem i64_div_toInt {a b : Int64} (hb : 0 < b.toInt) : (a / b).toInt = a.toInt.tdiv b.toInt := Int64.toInt_div_of_ne_right a b (by rintro rfl; revert hb; decide)
theorem dDig_eq (v : Int64) {e : Nat} (he : e < 19) : (if 0 ≤ (v / tU (e + 1) - v / tU (e + 1) / 10 * 10).toInt32 then (v / tU (e + 1) - v / tU (e + 1) / 10 * 10).toInt32 else 0 - (v / tU (e + 1) - v / tU (e + 1) / 10 * 10).toInt32) = nI (dDig v e) := by
  have hu := tU_int e he
  have hp : 0 < (tU (e + 1)).toInt := by rw [hu]; exact Int.ofNat_lt.mpr (Nat.pow_pos (by decide))
  have hq := i64_div_toInt (a := v) hp
  generalize v / tU (e + 1) = q at hq ⊢
  have h10 : (10 : Int64).toInt = 10 := by decide
  have hqq := i64_div_toInt (a := q) (b := 10) (by decide)
  rw [h10] at hqq
  have hm : (q - q / 10 * 10).toInt = q.toInt.tmod 10 := by
    rw [Int64.toInt_sub, Int64.toInt_mul, h10, hqq]
    have h1 := Int.tmod_add_mul_tdiv q.toInt 10
    have h2 : (q.toInt.tmod 10).natAbs < 10 := by rw [Int.natAbs_tmod]; exact Nat.mod_lt _ (by decide)
    have h3 := Int64.le_toInt q
    have h4 := Int64.toInt_lt q
    have h7 : (q.toInt.tdiv 10).natAbs = q.toInt.natAbs / 10 := by rw [Int.natAbs_tdiv]; rfl
    have h5 : (q.toInt.tdiv 10 * 10).bmod (2 ^ 64) = q.toInt.tdiv 10 * 10 := by
      apply Int.bmod_eq_of_le
      · omega
      · omega
    rw [h5]
    have h6 : q.toInt - q.toInt.tdiv 10 * 10 = q.toInt.tmod 10 := by omega
    rw [h6]
    apply Int.bmod_eq_of_le
    · omega
    · omega
  have hd : dDig v e = (q.toInt.tmod 10).natAbs := by
    rw [Int.natAbs_tmod, hq, Int.natAbs_tdiv, hu]
    rfl
  have hlt : (q.toInt.tmod 10).natAbs < 10 := by rw [← hd]; exact dDig_lt v e
  generalize q - q / 10 * 10 = w at hm ⊢
  have hw : w.toInt32.toInt = q.toInt.tmod 10 := by
    rw [Int64.toInt_toInt32, hm]
    apply Int.bmod_eq_of_le
    · omega
    · omega
  apply Int32.toInt_inj.mp
  rw [nI_toInt (by rw [hd]; omega), hd]
  split
  · next h =>
    have h9 := Int32.le_iff_toInt_le.mp h
    rw [hw] at h9
    rw [hw]
    have h8 : (0 : Int32).toInt = 0 := by decide
    omega
  · next h =>
    have h9 : ¬ (0 : Int32).toInt ≤ w.toInt32.toInt := fun q => h (Int32.le_iff_toInt_le.mpr q)
    have h8 : (0 : Int32).toInt = 0 := by decide
    rw [hw, h8] at h9
    rw [Int32.toInt_sub, h8, hw]
    rw [Int.bmod_eq_of_le (by omega) (by omega)]
    omega
/-! bits: hexadecimal and octal digits -/
def tI (e : Nat) : Int32 := match e with
  | 0 => -1
  | e + 1 => nI e
theorem tI_step (e : Nat) : tI (e + 1) + Int32.ofInt (-1) = tI e := by
  rcases e with _ | e
  · decide
  · exact pk_m1 e
def bDig (v : Int64) (bt e : Nat) : Nat := uN v / 2 ^ (e * bt) % 2 ^ bt
def bCh (lb d : Nat) : Nat := if d < 10 then 48 + d else lb + d - 10
def tBits (v : Int64) (mo bt lb : Nat) : List Nat := dgF (bDig v bt) (bCh lb) mo false
theorem bDig_lt (v : Int64) {bt : Nat} (h : bt ≤ 4) (e : Nat) : bDig v bt e < 16 := by
  have h1 : bDig v bt e < 2 ^ bt := Nat.mod_lt _ (Nat.pow_pos (by decide))
  have h2 : 2 ^ bt ≤ 2 ^ 4 := Nat.pow_le_pow_right (by decide) h
  omega
theorem l2i_nat (z : Int64) : z.toInt32.toBitVec.toNat = uN z % 2 ^ 32 := by
  show (z.toBitVec.signExtend 32).toNat = _
  rw [BitVec.signExtend_eq_setWidth_of_le _ (by decide), BitVec.toNat_setWidth]
  rfl
theorem bDig_eq (v : Int64) {bt e : Nat} (hb : bt = 3 ∨ bt = 4) (he : e * bt < 64) {x4 mk : Int32} (h4 : x4 = nI bt) (hm : mk = (1 <<< (x4 &&& 31)) - 1) : ((v.toUInt64 >>> ((nI (e * bt) : Int32).toInt64.toUInt64 &&& Int64.toUInt64 63)).toInt64).toInt32 &&& mk = nI (bDig v bt e) := by
  have hmk : mk.toBitVec.toNat = 2 ^ bt - 1 := by
    rw [hm, h4]
    rcases hb with rfl | rfl <;> decide
  rw [pk_and _ bt hmk, l2i_nat, uN_sk v he]
  unfold bDig
  congr 1
  rcases hb with rfl | rfl
  · omega
  · omega
/-! a place -/
abbrev fl4 : Type := Bool × Bool × Bool × Bool
def tPl (c : Nat → va_E) (k : Nat) (f : fl4) (w kd bh : Int32) : Prop := c k = .inr (tCP, [.int (bI f.1), .int (bI f.2.1), .int (bI f.2.2.1), .int (bI f.2.2.2), .int w, .int kd, .int bh])
def pFlag (x : Nat) (f : fl4) : Option fl4 := if x = 45 then some (true, f.2.1, f.2.2.1, f.2.2.2) else if x = 48 then some (f.1, true, f.2.2.1, f.2.2.2) else if x = 43 then some (f.1, f.2.1, true, f.2.2.2) else if x = 32 then some (f.1, f.2.1, f.2.2.1, true) else none
def pFlags : List Nat → fl4 → fl4 × List Nat
  | [], f => (f, [])
  | x :: t, f => match pFlag x f with
    | some f' => pFlags t f'
    | none => (f, x :: t)
def isDg (x : Nat) : Bool := decide (48 ≤ x) && decide (x ≤ 57)
def pWid : List Nat → Nat → Nat × List Nat
  | [], w => (w, [])
  | x :: t, w => if isDg x = true then pWid t (min 100000 (w * 10 + (x - 48))) else (w, x :: t)
def isKd (x : Nat) : Bool := x == 37 || x == 88 || x == 99 || x == 100 || x == 111 || x == 115 || x == 120
theorem pFlags_le : ∀ (t : List Nat) (f : fl4), (pFlags t f).2.length ≤ t.length
  | [], f => Nat.le_refl _
  | x :: t, f => by
    unfold pFlags
    split
    · next f' h => exact Nat.le_trans (pFlags_le t f') (Nat.le_succ _)
    · exact Nat.le_refl _
theorem pWid_le : ∀ (t : List Nat) (w : Nat), (pWid t w).2.length ≤ t.length
  | [], w => Nat.le_refl _
  | x :: t, w => by
    unfold pWid
    split
    · exact Nat.le_trans (pWid_le t _) (Nat.le_succ _)
    · exact Nat.le_refl _
theorem pWid_lt : ∀ (t : List Nat) (w : Nat), w ≤ 100000 → (pWid t w).1 ≤ 100000
  | [], w => fun h => h
  | x :: t, w => fun h => by
    unfold pWid
    split
    · exact pWid_lt t _ (Nat.min_le_left _ _)
    · exact h
theorem dr_cons {t : List Nat} {i : Nat} (h : i < t.length) : t.drop i = t.getD i 0 :: t.drop (i + 1) := by
  rw [List.drop_eq_getElem_cons h, List.getD_eq_getElem?_getD, List.getElem?_eq_getElem h]
  rfl
theorem dr_nil {t : List Nat} {i : Nat} (h : t.length ≤ i) : t.drop i = [] := List.drop_eq_nil_of_le h
theorem isDg_t {b : Nat} (hb : b < 256) (h1 : (48 : Int32) ≤ nI b) (h2 : nI b ≤ 57) : isDg b = true := by
  have e1 : 48 ≤ b := (nI_leI (a := 48) (by omega) (by omega)).mp h1
  have e2 : b ≤ 57 := (nI_leI (b := 57) (by omega) (by omega)).mp h2
  simp [isDg, e1, e2]
theorem isDg_f {b : Nat} (hb : b < 256) (h : ¬ ((48 : Int32) ≤ nI b ∧ nI b ≤ 57)) : isDg b = false := by
  have e : ¬ (48 ≤ b ∧ b ≤ 57) := fun q => h ⟨nI_le (a := 48) q.1 (by omega), nI_le (b := 57) q.2 (by omega)⟩
  simp only [isDg, Bool.and_eq_false_iff, decide_eq_false_iff_not]
  omega
theorem isDg_le {b : Nat} (h : isDg b = true) : 48 ≤ b ∧ b ≤ 57 := by
  simpa [isDg] using h
theorem wd_eq {w b : Nat} (h : 48 ≤ b) : nI w * 10 + nI b - 48 = nI (w * 10 + (b - 48)) := by
  rw [show (10 : Int32) = nI 10 from rfl, pk_mul, nI_add, show (48 : Int32) = nI 48 from rfl, pk_sub (by omega)]
  congr 1
  omega
theorem wd_min {a : Nat} (h : a < 2 ^ 31) : (if nI a < (100000 : Int32) then nI a else 100000) = nI (min 100000 a) := by
  show (if nI a < nI 100000 then nI a else nI 100000) = _
  by_cases h1 : a < 100000
  · rw [if_pos (nI_lt (b := 100000) h1 (by omega)), Nat.min_eq_right (by omega)]
  · rw [if_neg (nI_nlt (b := 100000) (by omega) h), Nat.min_eq_left (by omega)]
/-- what stands behind a %: flags, width, and the rest, which begins with the kind -/
def pPlace (s : List Nat) : fl4 × Nat × List Nat := ((pFlags s (false, false, false, false)).1, pWid (pFlags s (false, false, false, false)).2 0)
theorem kd_cases {t : List Nat} {i : Nat} {r : Int32} (hb : ∀ x ∈ t, x < 256) (h : ((tAt t i = 37 ∨ tAt t i = 88 ∨ tAt t i = 99 ∨ tAt t i = 100 ∨ tAt t i = 111 ∨ tAt t i = 115 ∨ tAt t i = 120) ∧ r = 1) ∨ (¬ (tAt t i = 37 ∨ tAt t i = 88 ∨ tAt t i = 99 ∨ tAt t i = 100 ∨ tAt t i = 111 ∨ tAt t i = 115 ∨ tAt t i = 120) ∧ r = 0)) :
    (i < t.length ∧ isKd (t.getD i 0) = true ∧ r = 1) ∨ (¬ (i < t.length ∧ isKd (t.getD i 0) = true) ∧ r = 0) := by
  by_cases hi : i < t.length
  · have e : tAt t i = nI (t.getD i 0) := if_pos hi
    have hb8 := hb _ (gD_mem hi)
    have key : ∀ y : Nat, y < 256 → (tAt t i = nI y ↔ t.getD i 0 = y) := fun y hy => by
      rw [e]
      exact nI_eq (by omega) (by omega)
    have h2 : (tAt t i = 37 ∨ tAt t i = 88 ∨ tAt t i = 99 ∨ tAt t i = 100 ∨ tAt t i = 111 ∨ tAt t i = 115 ∨ tAt t i = 120) ↔ isKd (t.getD i 0) = true := by
      rw [show (37 : Int32) = nI 37 from rfl, show (88 : Int32) = nI 88 from rfl, show (99 : Int32) = nI 99 from rfl, show (100 : Int32) = nI 100 from rfl, show (111 : Int32) = nI 111 from rfl, show (115 : Int32) = nI 115 from rfl, show (120 : Int32) = nI 120 from rfl,
        key 37 (by decide), key 88 (by decide), key 99 (by decide), key 100 (by decide), key 111 (by decide), key 115 (by decide), key 120 (by decide)]
      simp [isKd, or_assoc]
    rcases h with ⟨h, hr⟩ | ⟨h, hr⟩
    · exact Or.inl ⟨hi, h2.mp h, hr⟩
    · exact Or.inr ⟨fun q => h (h2.mpr q.2), hr⟩
  · have e : tAt t i = -1 := if_neg hi
    rcases h with ⟨h, hr⟩ | ⟨h, hr⟩
    · rw [e] at h
      exact absurd h (by decide)
    · exact Or.inr ⟨fun q => hi q.1, hr⟩
/-! numerals -/
def tNm (c : Nat → va_E) (k : Nat) (v : Int64) : Prop := c k = .inr (tCN, [.long v])
def hxD (b : Nat) : Option Nat := if isDg b = true then some (b - 48) else if 97 ≤ b ∧ b ≤ 102 then some (b - 87) else if 65 ≤ b ∧ b ≤ 70 then some (b - 55) else none
def hxI (b : Nat) : Int32 := match hxD b with
  | some d => nI d
  | none => -1
def hxRd : List Nat → Int64 → Option Int64
  | [], v => some v
  | b :: s, v => match hxD b with
    | some d => hxRd s (v <<< ((4 : Int32).toInt64 &&& 63) ||| (nI d).toInt64)
    | none => none
def pHex (s : List Nat) (mi : Bool) : Option Int64 := if 1 ≤ s.length ∧ s.length ≤ 16 then (match hxRd s 0 with
    | some v => some (if mi = true then -v else v)
    | none => none) else none
def gTake (v : Int64) (d : Int32) : Option Int64 := if v < -922337203685477580 ∨ v * 10 < -9223372036854775808 + d.toInt64 then none else some (v * 10 - d.toInt64)
def gRd : List Nat → Int64 → Option Int64
  | [], v => some v
  | b :: s, v => if isDg b = true then (match gTake v (nI (b - 48)) with
    | some v' => gRd s v'
    | none => none) else none
def pDec (s : List Nat) (mi : Bool) : Option Int64 := match s with
  | [] => none
  | b :: s' => match gRd (b :: s') 0 with
    | some v => if mi = true then some v else if v = -9223372036854775808 then none else some (-v)
    | none => none
def pNum (t : List Nat) : Option Int64 := 
  if tAt (t.drop (if tAt t 0 = 45 ∨ tAt t 0 = 43 then 1 else 0)) 0 = 48 ∧ tAt (t.drop (if tAt t 0 = 45 ∨ tAt t 0 = 43 then 1 else 0)) 1 = 120 then pHex (t.drop ((if tAt t 0 = 45 ∨ tAt t 0 = 43 then 1 else 0) + 2)) (decide (tAt t 0 = 45)) else pDec (t.drop (if tAt t 0 = 45 ∨ tAt t 0 = 43 then 1 else 0)) (decide (tAt t 0 = 45))
theorem tAt_drop {t : List Nat} {i j : Nat} : tAt (t.drop i) j = tAt t (i + j) := by
  unfold tAt
  rw [List.length_drop]
  by_cases h : i + j < t.length
  · rw [if_pos h, if_pos (by omega), List.getD_eq_getElem?_getD, List.getElem?_drop, List.getD_eq_getElem?_getD]
  · rw [if_neg h, if_neg (by omega)]
theorem nI_ne_m1 {d : Nat} (h : d < 2 ^ 31) : ¬ nI d = -1 := fun q => absurd (by rw [q]; decide : nI d < 0) (nI_pos h)
theorem hxD_lt {b d : Nat} (h : hxD b = some d) : d < 16 := by
  unfold hxD at h
  split at h
  · next h1 => have := isDg_le h1; cases h; omega
  · split at h
    · cases h; omega
    · split at h
      · cases h; omega
      · cases h
theorem hxI_t {b d : Nat} (h : hxD b = some d) : hxI b = nI d := by unfold hxI; rw [h]
theorem hxI_f {b : Nat} (h : hxD b = none) : hxI b = -1 := by unfold hxI; rw [h]
theorem hx_eq {a b : Nat} (h : a ≤ b) (ha : 10 ≤ a) : nI b - nI a + 10 = nI (b - (a - 10)) := by
  rw [pk_sub h, show (10 : Int32) = nI 10 from rfl, nI_add]
  congr 1
  omega
theorem pDec_s {t : List Nat} {i : Nat} {mi : Bool} {v : Int64} (hi : i < t.length) (h : gRd (t.drop i) 0 = some v) : pDec (t.drop i) mi = if mi = true then some v else if v = -9223372036854775808 then none else some (-v) := by
  rw [dr_cons hi] at h ⊢
  show (match gRd _ 0 with | some v => _ | none => _) = _
  rw [h]
theorem pDec_n {t : List Nat} {i : Nat} {mi : Bool} (hi : i < t.length) (h : gRd (t.drop i) 0 = none) : pDec (t.drop i) mi = none := by
  rw [dr_cons hi] at h ⊢
  show (match gRd _ 0 with | some v => _ | none => _) = _
  rw [h]
theorem tI_pred (e : Nat) : nI e - 1 = tI e := by
  rcases e with _ | e
  · decide
  · exact nI_pred e
theorem bCh_hi {lb d : Nat} (h : 10 ≤ d) : nI lb + nI d - 10 = nI (bCh lb d) := by
  rw [nI_add, show (10 : Int32) = nI 10 from rfl, pk_sub (by omega)]
  unfold bCh
  rw [if_neg (by omega)]
theorem bCh_lo {lb d : Nat} (h : d < 10) : 48 + nI d = nI (bCh lb d) := by
  rw [show (48 : Int32) = nI 48 from rfl, nI_add]
  unfold bCh
  rw [if_pos h]
theorem bCh_lt {lb d : Nat} (h : d < 16) (hl : lb < 200) : bCh lb d < 256 := by
  unfold bCh
  split <;> omega
/-! the mill: 52 cells: the object 0; texts tape 1, pattern 3, made 5; the row of arguments 7, argument i at 8 + 2 i; place 48, numeral 49, digits 50 -/
def tMF (ca : Nat → ClassId) (ad : Nat → Nat) (c : Nat → va_E) (tp pt md : List Nat) (ar : Nat → List Nat) (ac tk : Nat) (f : fl4) (w kd bh : Int32) (v : Int64) (dg : List Nat) : Prop :=
  c 0 = .inr (tCM, [.ref (ad 1), .ref (ad 3), .ref (ad 5), .ref (ad 7), .int (nI ac), .int (nI tk), .ref (ad 48), .ref (ad 49), .ref (ad 50)]) ∧ tTx ca ad c 1 400 tp ∧ tTx ca ad c 3 400 pt ∧ tTx ca ad c 5 1024 md ∧
  (∃ g : Nat → Option Nat, c 7 = .inl (ca 1, 20, .inr (.inr (.inr (.inr g)))) ∧ ∀ i, i < 20 → g i = some (ad (8 + 2 * i))) ∧ (∀ i, i < 20 → tTx ca ad c (8 + 2 * i) 40 (ar i)) ∧ tPl c 48 f w kd bh ∧ tNm c 49 v ∧ tTx ca ad c 50 40 dg ∧ ac ≤ 20 ∧ tk ≤ 20
def tMS (ca : Nat → ClassId) (ad : Nat → Nat) (c : Nat → va_E) (tp pt md : List Nat) (ar : Nat → List Nat) (ac : Nat) : Prop := ∃ tk f w kd bh v dg, tMF ca ad c tp pt md ar ac tk f w kd bh v dg
theorem tMF.ms {ca : Nat → ClassId} {ad : Nat → Nat} {c : Nat → va_E} {tp pt md dg : List Nat} {ar : Nat → List Nat} {ac tk : Nat} {f : fl4} {w kd bh : Int32} {v : Int64} (h : tMF ca ad c tp pt md ar ac tk f w kd bh v dg) : tMS ca ad c tp pt md ar ac := ⟨tk, f, w, kd, bh, v, dg, h⟩
theorem tMF.tape {ca : Nat → ClassId} {ad : Nat → Nat} {c c' : Nat → va_E} {tp pt md dg : List Nat} {ar : Nat → List Nat} {ac tk : Nat} {f : fl4} {w kd bh : Int32} {v : Int64} {t : List Nat} (h : tMF ca ad c tp pt md ar ac tk f w kd bh v dg) (hs : tSm c c' 1) (ht : tTx ca ad c' 1 400 t) : tMF ca ad c' t pt md ar ac tk f w kd bh v dg := by
  obtain ⟨hm, ht1, ht3, ht5, ⟨g7, h7, hg7⟩, hA, hL, hV, ht50, hac, htk⟩ := h
  exact ⟨(hs 0 (by omega) (by omega)).trans hm, ht, ht3.keep (hs 3 (by omega) (by omega)) (hs 4 (by omega) (by omega)), ht5.keep (hs 5 (by omega) (by omega)) (hs 6 (by omega) (by omega)), ⟨g7, (hs 7 (by omega) (by omega)).trans h7, hg7⟩, fun i hi => (hA i hi).keep (hs _ (by omega) (by omega)) (hs _ (by omega) (by omega)), (hs 48 (by omega) (by omega)).trans hL, (hs 49 (by omega) (by omega)).trans hV, ht50.keep (hs 50 (by omega) (by omega)) (hs 51 (by omega) (by omega)), hac, htk⟩
theorem tMF.pat {ca : Nat → ClassId} {ad : Nat → Nat} {c c' : Nat → va_E} {tp pt md dg : List Nat} {ar : Nat → List Nat} {ac tk : Nat} {f : fl4} {w kd bh : Int32} {v : Int64} {t : List Nat} (h : tMF ca ad c tp pt md ar ac tk f w kd bh v dg) (hs : tSm c c' 3) (ht : tTx ca ad c' 3 400 t) : tMF ca ad c' tp t md ar ac tk f w kd bh v dg := by
  obtain ⟨hm, ht1, ht3, ht5, ⟨g7, h7, hg7⟩, hA, hL, hV, ht50, hac, htk⟩ := h
  exact ⟨(hs 0 (by omega) (by omega)).trans hm, ht1.keep (hs 1 (by omega) (by omega)) (hs 2 (by omega) (by omega)), ht, ht5.keep (hs 5 (by omega) (by omega)) (hs 6 (by omega) (by omega)), ⟨g7, (hs 7 (by omega) (by omega)).trans h7, hg7⟩, fun i hi => (hA i hi).keep (hs _ (by omega) (by omega)) (hs _ (by omega) (by omega)), (hs 48 (by omega) (by omega)).trans hL, (hs 49 (by omega) (by omega)).trans hV, ht50.keep (hs 50 (by omega) (by omega)) (hs 51 (by omega) (by omega)), hac, htk⟩
theorem tMF.made {ca : Nat → ClassId} {ad : Nat → Nat} {c c' : Nat → va_E} {tp pt md dg : List Nat} {ar : Nat → List Nat} {ac tk : Nat} {f : fl4} {w kd bh : Int32} {v : Int64} {t : List Nat} (h : tMF ca ad c tp pt md ar ac tk f w kd bh v dg) (hs : tSm c c' 5) (ht : tTx ca ad c' 5 1024 t) : tMF ca ad c' tp pt t ar ac tk f w kd bh v dg := by
  obtain ⟨hm, ht1, ht3, ht5, ⟨g7, h7, hg7⟩, hA, hL, hV, ht50, hac, htk⟩ := h
  exact ⟨(hs 0 (by omega) (by omega)).trans hm, ht1.keep (hs 1 (by omega) (by omega)) (hs 2 (by omega) (by omega)), ht3.keep (hs 3 (by omega) (by omega)) (hs 4 (by omega) (by omega)), ht, ⟨g7, (hs 7 (by omega) (by omega)).trans h7, hg7⟩, fun i hi => (hA i hi).keep (hs _ (by omega) (by omega)) (hs _ (by omega) (by omega)), (hs 48 (by omega) (by omega)).trans hL, (hs 49 (by omega) (by omega)).trans hV, ht50.keep (hs 50 (by omega) (by omega)) (hs 51 (by omega) (by omega)), hac, htk⟩
theorem tMF.dig {ca : Nat → ClassId} {ad : Nat → Nat} {c c' : Nat → va_E} {tp pt md dg : List Nat} {ar : Nat → List Nat} {ac tk : Nat} {f : fl4} {w kd bh : Int32} {v : Int64} {t : List Nat} (h : tMF ca ad c tp pt md ar ac tk f w kd bh v dg) (hs : tSm c c' 50) (ht : tTx ca ad c' 50 40 t) : tMF ca ad c' tp pt md ar ac tk f w kd bh v t := by
  obtain ⟨hm, ht1, ht3, ht5, ⟨g7, h7, hg7⟩, hA, hL, hV, ht50, hac, htk⟩ := h
  exact ⟨(hs 0 (by omega) (by omega)).trans hm, ht1.keep (hs 1 (by omega) (by omega)) (hs 2 (by omega) (by omega)), ht3.keep (hs 3 (by omega) (by omega)) (hs 4 (by omega) (by omega)), ht5.keep (hs 5 (by omega) (by omega)) (hs 6 (by omega) (by omega)), ⟨g7, (hs 7 (by omega) (by omega)).trans h7, hg7⟩, fun i hi => (hA i hi).keep (hs _ (by omega) (by omega)) (hs _ (by omega) (by omega)), (hs 48 (by omega) (by omega)).trans hL, (hs 49 (by omega) (by omega)).trans hV, ht, hac, htk⟩
theorem tMF.plc {ca : Nat → ClassId} {ad : Nat → Nat} {c c' : Nat → va_E} {tp pt md dg : List Nat} {ar : Nat → List Nat} {ac tk : Nat} {f : fl4} {w kd bh : Int32} {v : Int64} {f1 : fl4} {w1 kd1 bh1 : Int32} (h : tMF ca ad c tp pt md ar ac tk f w kd bh v dg) (hs : ∀ j, j ≠ 48 → c' j = c j) (hL1 : tPl c' 48 f1 w1 kd1 bh1) : tMF ca ad c' tp pt md ar ac tk f1 w1 kd1 bh1 v dg := by
  obtain ⟨hm, ht1, ht3, ht5, ⟨g7, h7, hg7⟩, hA, hL, hV, ht50, hac, htk⟩ := h
  exact ⟨(hs 0 (by omega)).trans hm, ht1.keep (hs 1 (by omega)) (hs 2 (by omega)), ht3.keep (hs 3 (by omega)) (hs 4 (by omega)), ht5.keep (hs 5 (by omega)) (hs 6 (by omega)), ⟨g7, (hs 7 (by omega)).trans h7, hg7⟩, fun i hi => (hA i hi).keep (hs _ (by omega)) (hs _ (by omega)), hL1, (hs 49 (by omega)).trans hV, ht50.keep (hs 50 (by omega)) (hs 51 (by omega)), hac, htk⟩
theorem tMF.num {ca : Nat → ClassId} {ad : Nat → Nat} {c c' : Nat → va_E} {tp pt md dg : List Nat} {ar : Nat → List Nat} {ac tk : Nat} {f : fl4} {w kd bh : Int32} {v : Int64} {v1 : Int64} (h : tMF ca ad c tp pt md ar ac tk f w kd bh v dg) (hs : ∀ j, j ≠ 49 → c' j = c j) (hV1 : tNm c' 49 v1) : tMF ca ad c' tp pt md ar ac tk f w kd bh v1 dg := by
  obtain ⟨hm, ht1, ht3, ht5, ⟨g7, h7, hg7⟩, hA, hL, hV, ht50, hac, htk⟩ := h
  exact ⟨(hs 0 (by omega)).trans hm, ht1.keep (hs 1 (by omega)) (hs 2 (by omega)), ht3.keep (hs 3 (by omega)) (hs 4 (by omega)), ht5.keep (hs 5 (by omega)) (hs 6 (by omega)), ⟨g7, (hs 7 (by omega)).trans h7, hg7⟩, fun i hi => (hA i hi).keep (hs _ (by omega)) (hs _ (by omega)), (hs 48 (by omega)).trans hL, hV1, ht50.keep (hs 50 (by omega)) (hs 51 (by omega)), hac, htk⟩
theorem tMF.cel {ca : Nat → ClassId} {ad : Nat → Nat} {c c' : Nat → va_E} {tp pt md dg : List Nat} {ar : Nat → List Nat} {ac tk : Nat} {f : fl4} {w kd bh : Int32} {v : Int64} {ac1 tk1 : Nat} (h : tMF ca ad c tp pt md ar ac tk f w kd bh v dg) (hs : ∀ j, j ≠ 0 → c' j = c j) (hm1 : c' 0 = .inr (tCM, [.ref (ad 1), .ref (ad 3), .ref (ad 5), .ref (ad 7), .int (nI ac1), .int (nI tk1), .ref (ad 48), .ref (ad 49), .ref (ad 50)])) (hac1 : ac1 ≤ 20) (htk1 : tk1 ≤ 20) : tMF ca ad c' tp pt md ar ac1 tk1 f w kd bh v dg := by
  obtain ⟨hm, ht1, ht3, ht5, ⟨g7, h7, hg7⟩, hA, hL, hV, ht50, hac, htk⟩ := h
  exact ⟨hm1, ht1.keep (hs 1 (by omega)) (hs 2 (by omega)), ht3.keep (hs 3 (by omega)) (hs 4 (by omega)), ht5.keep (hs 5 (by omega)) (hs 6 (by omega)), ⟨g7, (hs 7 (by omega)).trans h7, hg7⟩, fun i hi => (hA i hi).keep (hs _ (by omega)) (hs _ (by omega)), (hs 48 (by omega)).trans hL, (hs 49 (by omega)).trans hV, ht50.keep (hs 50 (by omega)) (hs 51 (by omega)), hac1, htk1⟩
theorem tMF.arg {ca : Nat → ClassId} {ad : Nat → Nat} {c c' : Nat → va_E} {tp pt md dg : List Nat} {ar : Nat → List Nat} {ac tk : Nat} {f : fl4} {w kd bh : Int32} {v : Int64} {t : List Nat} {q : Nat} (hq : q < 20) (h : tMF ca ad c tp pt md ar ac tk f w kd bh v dg) (hs : tSm c c' (8 + 2 * q)) (ht : tTx ca ad c' (8 + 2 * q) 40 t) : tMF ca ad c' tp pt md (va_up ar q t) ac tk f w kd bh v dg := by
  obtain ⟨hm, ht1, ht3, ht5, ⟨g7, h7, hg7⟩, hA, hL, hV, ht50, hac, htk⟩ := h
  exact ⟨(hs 0 (by omega) (by omega)).trans hm, ht1.keep (hs 1 (by omega) (by omega)) (hs 2 (by omega) (by omega)), ht3.keep (hs 3 (by omega) (by omega)) (hs 4 (by omega) (by omega)), ht5.keep (hs 5 (by omega) (by omega)) (hs 6 (by omega) (by omega)), ⟨g7, (hs 7 (by omega) (by omega)).trans h7, hg7⟩, fun i hi => by
    by_cases hiq : i = q
    · subst hiq
      rw [va_up_self]
      exact ht
    · rw [va_up_ne _ _ hiq]
      exact (hA i hi).keep (hs _ (by omega) (by omega)) (hs _ (by omega) (by omega)), (hs 48 (by omega) (by omega)).trans hL, (hs 49 (by omega) (by omega)).trans hV, ht50.keep (hs 50 (by omega) (by omega)) (hs 51 (by omega) (by omega)), hac, htk⟩
theorem tFour_len (x : Int32) : (tFour x).length = 4 := rfl
def tNum (x : Int64) : List Nat := if x < 0 then ([] ++ [by8 45]) ++ tDec x else [] ++ tDec x
/-! what a place puts -/
def pad (lf zr : Bool) (wd : Nat) (sg body : List Nat) : List Nat :=
  if lf = true then sg ++ body ++ List.replicate (max (body.length + sg.length) wd - (body.length + sg.length)) 32
  else if zr = true then sg ++ List.replicate (max (body.length + sg.length) wd - (body.length + sg.length)) 48 ++ body
  else List.replicate (max (body.length + sg.length) wd - (body.length + sg.length)) 32 ++ sg ++ body
theorem pad_len {lf zr : Bool} {wd : Nat} {sg body : List Nat} : (pad lf zr wd sg body).length = max (body.length + sg.length) wd := by
  unfold pad
  split
  · simp only [List.length_append, List.length_replicate]; omega
  · split
    · simp only [List.length_append, List.length_replicate]; omega
    · simp only [List.length_append, List.length_replicate]; omega
def sgL (x : Int32) : List Nat := if x = 0 then [] else [by8 x]
def sgn (f : fl4) (v : Int64) : Int32 := if v < 0 then 45 else if f.2.2.1 = true then 43 else if f.2.2.2 = true then 32 else 0
def fInt (f : fl4) (wd : Nat) (kd : Int32) (v : Int64) : List Nat :=
  if kd = 88 then pad f.1 f.2.1 wd (sgL 0) (tBits v 16 4 65)
  else if kd = 100 then pad f.1 f.2.1 wd (sgL (sgn f v)) (tDec v)
  else if kd = 111 then pad f.1 f.2.1 wd (sgL 0) (tBits v 22 3 97)
  else if kd = 120 then pad f.1 f.2.1 wd (sgL 0) (tBits v 16 4 97)
  else pad f.1 false wd (sgL 0) [by8 v.toInt32]
theorem wh_max {a b : Nat} (ha : a < 2 ^ 31) (hb : b < 2 ^ 31) : (if nI a < nI b then nI b else nI a) = nI (max a b) := by
  by_cases h : a < b
  · rw [if_pos (nI_lt h hb), Nat.max_eq_right (by omega)]
  · rw [if_neg (nI_nlt (by omega) ha), Nat.max_eq_left (by omega)]
/-- what a place gives: a fault or 0, the bytes, how many arguments are taken then -/
def pcs (ar : Nat → List Nat) (ac tk : Nat) (f : fl4) (wd : Nat) (kd : Int32) : Int32 × List Nat × Nat :=
  if kd = 37 then (0, [37], tk) else if ac ≤ tk then (-3, [], tk) else if kd = 115 then (0, pad f.1 false wd (sgL 0) (ar tk), tk + 1)
  else match pNum (ar tk) with
    | none => (-4, [], tk + 1)
    | some x => (0, fInt f wd kd x, tk + 1)
/-- what make answers and leaves made -/
def mkF (ar : Nat → List Nat) (ac : Nat) : Nat → List Nat → Nat → List Nat → Int32 × List Nat
  | 0, _, _, _ => (0, [])
  | _ + 1, [], _, md => (nI md.length, md)
  | q + 1, x :: s, tk, md =>
    if x = 37 then match (pPlace s).2.2 with
      | [] => (-2, [])
      | kd :: s' => if isKd kd = true then
          (if (pcs ar ac tk (pPlace s).1 (pPlace s).2.1 (nI kd)).1 = 0 then
            (if md.length + (pcs ar ac tk (pPlace s).1 (pPlace s).2.1 (nI kd)).2.1.length ≤ 1024 then mkF ar ac q s' (pcs ar ac tk (pPlace s).1 (pPlace s).2.1 (nI kd)).2.2 (md ++ (pcs ar ac tk (pPlace s).1 (pPlace s).2.1 (nI kd)).2.1) else (-5, []))
          else ((pcs ar ac tk (pPlace s).1 (pPlace s).2.1 (nI kd)).1, []))
        else (-2, [])
    else if md.length < 1024 then mkF ar ac q s tk (md ++ [x]) else (-5, [])
theorem mkF_nil {ar : Nat → List Nat} {ac q tk : Nat} {md : List Nat} : mkF ar ac (q + 1) [] tk md = (nI md.length, md) := rfl
theorem mkF_byte {ar : Nat → List Nat} {ac q tk x : Nat} {s md : List Nat} (hx : ¬ x = 37) : mkF ar ac (q + 1) (x :: s) tk md = if md.length < 1024 then mkF ar ac q s tk (md ++ [x]) else (-5, []) := if_neg hx
theorem mkF_bad {ar : Nat → List Nat} {ac q tk x : Nat} {s md : List Nat} (hx : x = 37) (h : (pPlace s).2.2 = [] ∨ ∃ kd s', (pPlace s).2.2 = kd :: s' ∧ isKd kd = false) : mkF ar ac (q + 1) (x :: s) tk md = (-2, []) := by
  show (if x = 37 then _ else _) = _
  rw [if_pos hx]
  rcases h with h | ⟨kd, s', h, hk⟩
  · rw [h]
  · rw [h]
    show (if isKd kd = true then _ else _) = _
    rw [if_neg (by rw [hk]; decide)]
theorem mkF_plc {ar : Nat → List Nat} {ac q tk x kd : Nat} {s s' md : List Nat} (hx : x = 37) (h : (pPlace s).2.2 = kd :: s') (hk : isKd kd = true) : mkF ar ac (q + 1) (x :: s) tk md = 
    if (pcs ar ac tk (pPlace s).1 (pPlace s).2.1 (nI kd)).1 = 0 then
            (if md.length + (pcs ar ac tk (pPlace s).1 (pPlace s).2.1 (nI kd)).2.1.length ≤ 1024 then mkF ar ac q s' (pcs ar ac tk (pPlace s).1 (pPlace s).2.1 (nI kd)).2.2 (md ++ (pcs ar ac tk (pPlace s).1 (pPlace s).2.1 (nI kd)).2.1) else (-5, []))
          else ((pcs ar ac tk (pPlace s).1 (pPlace s).2.1 (nI kd)).1, []) := by
  show (if x = 37 then _ else _) = _
  rw [if_pos hx, h]
  exact if_pos hk
theorem pPlace_le (s : List Nat) : (pPlace s).2.2.length ≤ s.length := Nat.le_trans (pWid_le _ _) (pFlags_le _ _)
end
section
set_option maxHeartbeats 4000000 in
set_option maxRecDepth 100000 in
/-- Text.empty() -/
theorem c_Text_empty (l : Launch) (D : va_G) (ca : Nat → ClassId) (n : Nat) (ad : Nat → Nat) (c : Nat → va_E) {k cap : Nat} {t : List Nat} (hk : k + 1 < n) (hT : tTx ca ad c k cap t) : mVoid l yX2_empty wsX2_empty ({ frames := 0, cells := 0, slots := 0, locals := 0 }) [.ref (ad k)] D (tTY ca) n ad c (fun c' => tSm c c' k ∧ tTx ca ad c' k cap []) := by
  intro sz
  refine Met.ofW (cc := cX2_empty) (maxL := 1) (ret := none) (by decide) rfl ?_
  intro pg9 ev9 s m args below meth cd s₁ B hml hv
  obtain ⟨rfl, hsz, hP, hK, hD0, hN⟩ := hv
  have hx := B.exec
  have hb := B.bytes
  have hr := B.returns
  have hts := fun (w : Cond) (h : w ∈ WSa) => atoms_spec (ws := wsX2_empty) B.pre w (List.mem_cons_of_mem _ h)
  have hown : s.vm.findClass RX2 = some m.cls := findClass_of_methodNamed B.named
  have hlocks := B.notSynchronized
  subst hsz
  have hD : ∀ c, va_D (fun _ => True) (mw n ad c) := fun c' => mw_D hD0 c'
  have hS : va_S (mA n ad s.heap.size) s.heap s.heap [] := va_S.rf
  have hl := lv_entry ([.ref (ad k)]) (n := 1) (Nat.le_of_ble_eq_true rfl)
  rw [lg_entry_eq]
  generalize (lg_sl ([.ref (ad k)]) ++ List.replicate (1 - (lg_sl ([.ref (ad k)])).length) Slot.unset).toArray = ls at hl ⊢
  have hl : lv_has ls 1 [(0, .ref (ad k))] := hl
  obtain ⟨hle, hcp, hby, h0, f, h1, hf⟩ := id hT
  refine lv_aload_n hx hb dX2_empty_0 rfl (lv_at hl 0 rfl) ?_
  refine lv_iconst (v := 0) hx hb dX2_empty_1 (by decide) ?_
  refine mx_i (nI ([] : List Nat).length) (nI_0.symm) ?_
  refine mx_put (ci := 2) (v := .int (nI ([] : List Nat).length)) (ty := .int) (C := RX2) (T := TX2) (N := 2) hx hb hts inX2 tyX2 tyX2_ok nmX2 hown hK hP hD hS (by omega : k < n) h0 rfl 1 (by decide) (hts _ wm_22) (fun _ h9 => h9) rfl (by decide +kernel) rfl rfl (Nat.le_of_ble_eq_true rfl) dX2_empty_2 (fun H locs hP hS => ?_)
  obtain ⟨c1, ec1⟩ : ∃ z : Nat → va_E, z = va_up c k (.inr (2, [.ref (ad (k + 1)), .int (nI ([] : List Nat).length)])) := ⟨_, rfl⟩
  have hP : va_P D vwCl (mw n ad c1) H := by rw [ec1]; exact hP
  have hsc1 : ∀ j, j ≠ k → c1 j = c j := fun j h => by rw [ec1]; exact va_up_ne _ _ h
  have hcc1 : c1 k = .inr (2, [.ref (ad (k + 1)), .int (nI ([] : List Nat).length)]) := by rw [ec1]; exact va_up_self _ _ _
  exact mx_vret hx hb hr hlocks hP hS (⟨fun j h1 h2 => hsc1 j h1, Nat.zero_le _, hcp, by simp, hcc1, f, (hsc1 _ (by omega)).trans h1, by simp⟩) dX2_empty_5
set_option maxHeartbeats 4000000 in
set_option maxRecDepth 100000 in
/-- Text.shorten(x) -/
theorem c_Text_shorten (l : Launch) (D : va_G) (ca : Nat → ClassId) (n : Nat) (ad : Nat → Nat) (c : Nat → va_E) {k cap : Nat} {t : List Nat} (hk : k + 1 < n) (hT : tTx ca ad c k cap t) (x : Int32) : mInt l yX2_shorten wsX2_shorten ({ frames := 0, cells := 0, slots := 0, locals := 0 }) [.ref (ad k), .int x] D (tTY ca) n ad c (fun r c' => ((x < 0 ∨ nI t.length < x) ∧ r = 0 ∧ c' = c) ∨ ∃ j, j ≤ t.length ∧ x = nI j ∧ r = 1 ∧ tSm c c' k ∧ tTx ca ad c' k cap (t.take j)) := by
  intro sz
  refine Met.ofW (cc := cX2_shorten) (maxL := 2) (ret := (some .boolean)) (by decide) rfl ?_
  intro pg9 ev9 s m args below meth cd s₁ B hml hv
  obtain ⟨rfl, hsz, hP, hK, hD0, hN⟩ := hv
  have hx := B.exec
  have hb := B.bytes
  have hr := B.returns
  have hts := fun (w : Cond) (h : w ∈ WSa) => atoms_spec (ws := wsX2_shorten) B.pre w (List.mem_cons_of_mem _ h)
  have hown : s.vm.findClass RX2 = some m.cls := findClass_of_methodNamed B.named
  have hlocks := B.notSynchronized
  subst hsz
  have hD : ∀ c, va_D (fun _ => True) (mw n ad c) := fun c' => mw_D hD0 c'
  have hS : va_S (mA n ad s.heap.size) s.heap s.heap [] := va_S.rf
  have hl := lv_entry ([.ref (ad k), .int x]) (n := 2) (Nat.le_of_ble_eq_true rfl)
  rw [lg_entry_eq]
  generalize (lg_sl ([.ref (ad k), .int x]) ++ List.replicate (2 - (lg_sl ([.ref (ad k), .int x])).length) Slot.unset).toArray = ls at hl ⊢
  have hl : lv_has ls 2 [(0, .ref (ad k)), (1, .int x)] := hl
  obtain ⟨hle, hcp, hby, h0, f, h1, hf⟩ := id hT
  refine lv_iload_n hx hb dX2_shorten_0 rfl (lv_at hl 1 rfl) ?_
  refine lv_if_lt (tgt := 12) hx hb dX2_shorten_1 (by decide) (fun hc => ?_) (fun hc => ?_)
  · skip
    refine lv_iconst (v := 0) hx hb dX2_shorten_12 (by decide) ?_
    exact mx_zret hx hb hr hlocks rfl hP hS (Or.inl ⟨Or.inl hc, rfl, rfl⟩) dX2_shorten_13
  · skip
    refine lv_iload_n hx hb dX2_shorten_4 rfl (lv_at hl 1 rfl) ?_
    refine lv_aload_n hx hb dX2_shorten_5 rfl (lv_at hl 0 rfl) ?_
    refine mx_get (ci := 2) (v := .int (nI t.length)) (C := RX2) (T := TX2) (N := 2) hx hb hts inX2 hown hK hP (by omega : k < n) h0 rfl 1 (by decide) (hts _ wm_22) (fun _ h9 => h9) rfl dX2_shorten_6 ?_
    refine lv_icmp_le (tgt := 14) hx hb dX2_shorten_9 (by decide) (fun hc2 => ?_) (fun hc2 => ?_)
    · skip
      obtain ⟨j, hj, hxj⟩ := nI_of2 (nI_toInt (by omega : t.length < 2 ^ 31)) hc hc2
      refine lv_aload_n hx hb dX2_shorten_14 rfl (lv_at hl 0 rfl) ?_
      refine lv_iload_n hx hb dX2_shorten_15 rfl (lv_at hl 1 rfl) ?_
      refine mx_i (nI (t.take j).length) (by rw [hxj, List.length_take, Nat.min_eq_left hj]) ?_
      refine mx_put (ci := 2) (v := .int (nI (t.take j).length)) (ty := .int) (C := RX2) (T := TX2) (N := 2) hx hb hts inX2 tyX2 tyX2_ok nmX2 hown hK hP hD hS (by omega : k < n) h0 rfl 1 (by decide) (hts _ wm_22) (fun _ h9 => h9) rfl (by decide +kernel) rfl rfl (Nat.le_of_ble_eq_true rfl) dX2_shorten_16 (fun H locs hP hS => ?_)
      obtain ⟨c1, ec1⟩ : ∃ z : Nat → va_E, z = va_up c k (.inr (2, [.ref (ad (k + 1)), .int (nI (t.take j).length)])) := ⟨_, rfl⟩
      have hP : va_P D vwCl (mw n ad c1) H := by rw [ec1]; exact hP
      have hsc1 : ∀ j, j ≠ k → c1 j = c j := fun j h => by rw [ec1]; exact va_up_ne _ _ h
      have hcc1 : c1 k = .inr (2, [.ref (ad (k + 1)), .int (nI (t.take j).length)]) := by rw [ec1]; exact va_up_self _ _ _
      refine lv_iconst (v := 1) hx hb dX2_shorten_19 (by decide) ?_
      exact mx_zret hx hb hr hlocks rfl hP hS (Or.inr ⟨j, hj, hxj, rfl, fun i h1 h2 => hsc1 i h1, by rw [List.length_take]; omega, hcp, fun y hy => hby y (List.mem_of_mem_take hy), hcc1, f, (hsc1 _ (by omega)).trans h1, fun i hi => by rw [List.length_take] at hi; rw [hf i (by omega), tk_getD (by omega)]⟩) dX2_shorten_20
    · skip
      refine lv_iconst (v := 0) hx hb dX2_shorten_12 (by decide) ?_
      exact mx_zret hx hb hr hlocks rfl hP hS (Or.inl ⟨Or.inr (Int32.not_le.mp hc2), rfl, rfl⟩) dX2_shorten_13
set_option maxHeartbeats 4000000 in
set_option maxRecDepth 100000 in
/-- Text.at(x) -/
theorem c_Text_at (l : Launch) (D : va_G) (ca : Nat → ClassId) (n : Nat) (ad : Nat → Nat) (c : Nat → va_E) {k cap : Nat} {t : List Nat} (hk : k + 1 < n) (hT : tTx ca ad c k cap t) (x : Int32) : mInt l yX2_at wsX2_at ({ frames := 0, cells := 0, slots := 0, locals := 0 }) [.ref (ad k), .int x] D (tTY ca) n ad c (fun r c' => r = tAtI t x ∧ c' = c) := by
  intro sz
  refine Met.ofW (cc := cX2_at) (maxL := 2) (ret := (some .int)) (by decide) rfl ?_
  intro pg9 ev9 s m args below meth cd s₁ B hml hv
  obtain ⟨rfl, hsz, hP, hK, hD0, hN⟩ := hv
  have hx := B.exec
  have hb := B.bytes
  have hr := B.returns
  have hts := fun (w : Cond) (h : w ∈ WSa) => atoms_spec (ws := wsX2_at) B.pre w (List.mem_cons_of_mem _ h)
  have hown : s.vm.findClass RX2 = some m.cls := findClass_of_methodNamed B.named
  have hlocks := B.notSynchronized
  subst hsz
  have hD : ∀ c, va_D (fun _ => True) (mw n ad c) := fun c' => mw_D hD0 c'
  have hS : va_S (mA n ad s.heap.size) s.heap s.heap [] := va_S.rf
  have hl := lv_entry ([.ref (ad k), .int x]) (n := 2) (Nat.le_of_ble_eq_true rfl)
  rw [lg_entry_eq]
  generalize (lg_sl ([.ref (ad k), .int x]) ++ List.replicate (2 - (lg_sl ([.ref (ad k), .int x])).length) Slot.unset).toArray = ls at hl ⊢
  have hl : lv_has ls 2 [(0, .ref (ad k)), (1, .int x)] := hl
  obtain ⟨hle, hcp, hby, h0, f, h1, hf⟩ := id hT
  refine lv_iload_n hx hb dX2_at_0 rfl (lv_at hl 1 rfl) ?_
  refine lv_if_lt (tgt := 21) hx hb dX2_at_1 (by decide) (fun hc => ?_) (fun hc => ?_)
  · skip
    refine lv_iconst (v := (-1)) hx hb dX2_at_21 (by decide) ?_
    refine lv_goto (tgt := 31) hx hb dX2_at_22 (by decide) ?_
    exact mx_iret hx hb hr hlocks hP hS (⟨(tAtI_neg hc).symm, rfl⟩) dX2_at_31
  · skip
    refine lv_iload_n hx hb dX2_at_4 rfl (lv_at hl 1 rfl) ?_
    refine lv_aload_n hx hb dX2_at_5 rfl (lv_at hl 0 rfl) ?_
    refine mx_get (ci := 2) (v := .int (nI t.length)) (C := RX2) (T := TX2) (N := 2) hx hb hts inX2 hown hK hP (by omega : k < n) h0 rfl 1 (by decide) (hts _ wm_22) (fun _ h9 => h9) rfl dX2_at_6 ?_
    refine lv_icmp_ge (tgt := 21) hx hb dX2_at_9 (by decide) (fun hc2 => ?_) (fun hc2 => ?_)
    · skip
      refine lv_iconst (v := (-1)) hx hb dX2_at_21 (by decide) ?_
      refine lv_goto (tgt := 31) hx hb dX2_at_22 (by decide) ?_
      exact mx_iret hx hb hr hlocks hP hS (⟨(tAtI_big hc hc2 (by omega)).symm, rfl⟩) dX2_at_31
    · skip
      obtain ⟨j, hj, hxj, hjv⟩ := tAtI_in hc hc2 (by omega)
      refine lv_iload_n hx hb dX2_at_12 rfl (lv_at hl 1 rfl) ?_
      refine lv_aload_n hx hb dX2_at_13 rfl (lv_at hl 0 rfl) ?_
      refine mx_get (ci := 2) (v := .ref (ad (k + 1))) (C := RX2) (T := TX2) (N := 2) hx hb hts inX2 hown hK hP (by omega : k < n) h0 rfl 0 (by decide) (hts _ wm_21) (fun _ h9 => h9) rfl dX2_at_14 ?_
      refine mx_alen (v := nI cap) hx hb hK hP (by omega : k + 1 < n) 0 h1 rfl rfl dX2_at_17 ?_
      refine lv_icmp_lt (tgt := 25) hx hb dX2_at_18 (by decide) (fun hc3 => ?_) (fun hc3 => ?_)
      · skip
        refine lv_aload_n hx hb dX2_at_25 rfl (lv_at hl 0 rfl) ?_
        refine mx_get (ci := 2) (v := .ref (ad (k + 1))) (C := RX2) (T := TX2) (N := 2) hx hb hts inX2 hown hK hP (by omega : k < n) h0 rfl 0 (by decide) (hts _ wm_21) (fun _ h9 => h9) rfl dX2_at_26 ?_
        refine lv_iload_n hx hb dX2_at_29 rfl (lv_at hl 1 rfl) ?_
        refine mx_iald hx hb hK hP (by omega : k + 1 < n) 0 h1 rfl (by rw [hxj]; exact vp_in_nI (by omega) (by omega)) dX2_at_30 ?_
        refine mx_i (tAtI t x) (by rw [hjv, hxj, nI_clamp (by omega), hf j hj]) ?_
        exact mx_iret hx hb hr hlocks hP hS (⟨rfl, rfl⟩) dX2_at_31
      · skip
        exact absurd (by rw [hxj]; exact nI_lt (by omega) (by omega)) hc3
set_option maxHeartbeats 4000000 in
set_option maxRecDepth 100000 in
/-- Text.hasRoomFor(x) -/
theorem c_Text_has (l : Launch) (D : va_G) (ca : Nat → ClassId) (n : Nat) (ad : Nat → Nat) (c : Nat → va_E) {k cap : Nat} {t : List Nat} (hk : k + 1 < n) (hT : tTx ca ad c k cap t) (x : Int32) : mInt l yX2_hasRoomFor wsX2_hasRoomFor ({ frames := 0, cells := 0, slots := 0, locals := 0 }) [.ref (ad k), .int x] D (tTY ca) n ad c (fun r c' => c' = c ∧ ((x ≤ nI (cap - t.length) ∧ r = 1) ∨ (nI (cap - t.length) < x ∧ r = 0))) := by
  intro sz
  refine Met.ofW (cc := cX2_hasRoomFor) (maxL := 2) (ret := (some .boolean)) (by decide) rfl ?_
  intro pg9 ev9 s m args below meth cd s₁ B hml hv
  obtain ⟨rfl, hsz, hP, hK, hD0, hN⟩ := hv
  have hx := B.exec
  have hb := B.bytes
  have hr := B.returns
  have hts := fun (w : Cond) (h : w ∈ WSa) => atoms_spec (ws := wsX2_hasRoomFor) B.pre w (List.mem_cons_of_mem _ h)
  have hown : s.vm.findClass RX2 = some m.cls := findClass_of_methodNamed B.named
  have hlocks := B.notSynchronized
  subst hsz
  have hD : ∀ c, va_D (fun _ => True) (mw n ad c) := fun c' => mw_D hD0 c'
  have hS : va_S (mA n ad s.heap.size) s.heap s.heap [] := va_S.rf
  have hl := lv_entry ([.ref (ad k), .int x]) (n := 2) (Nat.le_of_ble_eq_true rfl)
  rw [lg_entry_eq]
  generalize (lg_sl ([.ref (ad k), .int x]) ++ List.replicate (2 - (lg_sl ([.ref (ad k), .int x])).length) Slot.unset).toArray = ls at hl ⊢
  have hl : lv_has ls 2 [(0, .ref (ad k)), (1, .int x)] := hl
  obtain ⟨hle, hcp, hby, h0, f, h1, hf⟩ := id hT
  refine lv_iload_n hx hb dX2_hasRoomFor_0 rfl (lv_at hl 1 rfl) ?_
  refine lv_aload_n hx hb dX2_hasRoomFor_1 rfl (lv_at hl 0 rfl) ?_
  refine mx_get (ci := 2) (v := .ref (ad (k + 1))) (C := RX2) (T := TX2) (N := 2) hx hb hts inX2 hown hK hP (by omega : k < n) h0 rfl 0 (by decide) (hts _ wm_21) (fun _ h9 => h9) rfl dX2_hasRoomFor_2 ?_
  refine mx_alen (v := nI cap) hx hb hK hP (by omega : k + 1 < n) 0 h1 rfl rfl dX2_hasRoomFor_5 ?_
  refine lv_aload_n hx hb dX2_hasRoomFor_6 rfl (lv_at hl 0 rfl) ?_
  refine mx_get (ci := 2) (v := .int (nI t.length)) (C := RX2) (T := TX2) (N := 2) hx hb hts inX2 hown hK hP (by omega : k < n) h0 rfl 1 (by decide) (hts _ wm_22) (fun _ h9 => h9) rfl dX2_hasRoomFor_7 ?_
  refine lv_isub hx hb dX2_hasRoomFor_10 ?_
  refine mx_i (nI (cap - t.length)) (pk_sub hle) ?_
  refine lv_icmp_gt (tgt := 18) hx hb dX2_hasRoomFor_11 (by decide) (fun hc => ?_) (fun hc => ?_)
  · skip
    refine lv_iconst (v := 0) hx hb dX2_hasRoomFor_18 (by decide) ?_
    exact mx_zret hx hb hr hlocks rfl hP hS (⟨rfl, Or.inr ⟨hc, rfl⟩⟩) dX2_hasRoomFor_19
  · skip
    refine lv_iconst (v := 1) hx hb dX2_hasRoomFor_14 (by decide) ?_
    refine lv_goto (tgt := 19) hx hb dX2_hasRoomFor_15 (by decide) ?_
    exact mx_zret hx hb hr hlocks rfl hP hS (⟨rfl, Or.inl ⟨Int32.not_lt.mp hc, rfl⟩⟩) dX2_hasRoomFor_19
set_option maxHeartbeats 4000000 in
set_option maxRecDepth 100000 in
/-- Text.add(x) -/
theorem c_Text_add (l : Launch) (D : va_G) (ca : Nat → ClassId) (n : Nat) (ad : Nat → Nat) (c : Nat → va_E) {k cap : Nat} {t : List Nat} (hk : k + 1 < n) (hT : tTx ca ad c k cap t) (x : Int32) : mInt l yX2_add wsX2_add ({ frames := 0, cells := 0, slots := 0, locals := 0 }) [.ref (ad k), .int x] D (tTY ca) n ad c (fun r c' => (t.length < cap ∧ r = 1 ∧ tSm c c' k ∧ tTx ca ad c' k cap (t ++ [by8 x])) ∨ (cap ≤ t.length ∧ r = 0 ∧ c' = c)) := by
  intro sz
  refine Met.ofW (cc := cX2_add) (maxL := 2) (ret := (some .boolean)) (by decide) rfl ?_
  intro pg9 ev9 s m args below meth cd s₁ B hml hv
  obtain ⟨rfl, hsz, hP, hK, hD0, hN⟩ := hv
  have hx := B.exec
  have hb := B.bytes
  have hr := B.returns
  have hts := fun (w : Cond) (h : w ∈ WSa) => atoms_spec (ws := wsX2_add) B.pre w (List.mem_cons_of_mem _ h)
  have hown : s.vm.findClass RX2 = some m.cls := findClass_of_methodNamed B.named
  have hlocks := B.notSynchronized
  subst hsz
  have hD : ∀ c, va_D (fun _ => True) (mw n ad c) := fun c' => mw_D hD0 c'
  have hS : va_S (mA n ad s.heap.size) s.heap s.heap [] := va_S.rf
  have hl := lv_entry ([.ref (ad k), .int x]) (n := 2) (Nat.le_of_ble_eq_true rfl)
  rw [lg_entry_eq]
  generalize (lg_sl ([.ref (ad k), .int x]) ++ List.replicate (2 - (lg_sl ([.ref (ad k), .int x])).length) Slot.unset).toArray = ls at hl ⊢
  have hl : lv_has ls 2 [(0, .ref (ad k)), (1, .int x)] := hl
  obtain ⟨hle, hcp, hby, h0, f, h1, hf⟩ := id hT
  refine lv_aload_n hx hb dX2_add_0 rfl (lv_at hl 0 rfl) ?_
  refine mx_get (ci := 2) (v := .int (nI t.length)) (C := RX2) (T := TX2) (N := 2) hx hb hts inX2 hown hK hP (by omega : k < n) h0 rfl 1 (by decide) (hts _ wm_22) (fun _ h9 => h9) rfl dX2_add_1 ?_
  refine lv_if_lt (tgt := 19) hx hb dX2_add_4 (by decide) (fun hc => ?_) (fun hc => ?_)
  · skip
    exact absurd hc (nI_pos (by omega))
  · skip
    refine lv_aload_n hx hb dX2_add_7 rfl (lv_at hl 0 rfl) ?_
    refine mx_get (ci := 2) (v := .int (nI t.length)) (C := RX2) (T := TX2) (N := 2) hx hb hts inX2 hown hK hP (by omega : k < n) h0 rfl 1 (by decide) (hts _ wm_22) (fun _ h9 => h9) rfl dX2_add_8 ?_
    refine lv_aload_n hx hb dX2_add_11 rfl (lv_at hl 0 rfl) ?_
    refine mx_get (ci := 2) (v := .ref (ad (k + 1))) (C := RX2) (T := TX2) (N := 2) hx hb hts inX2 hown hK hP (by omega : k < n) h0 rfl 0 (by decide) (hts _ wm_21) (fun _ h9 => h9) rfl dX2_add_12 ?_
    refine mx_alen (v := nI cap) hx hb hK hP (by omega : k + 1 < n) 0 h1 rfl rfl dX2_add_15 ?_
    refine lv_icmp_lt (tgt := 21) hx hb dX2_add_16 (by decide) (fun hc2 => ?_) (fun hc2 => ?_)
    · skip
      have hlt : t.length < cap := (nI_ltI (by omega) (by omega)).mp hc2
      refine lv_aload_n hx hb dX2_add_21 rfl (lv_at hl 0 rfl) ?_
      refine mx_get (ci := 2) (v := .ref (ad (k + 1))) (C := RX2) (T := TX2) (N := 2) hx hb hts inX2 hown hK hP (by omega : k < n) h0 rfl 0 (by decide) (hts _ wm_21) (fun _ h9 => h9) rfl dX2_add_22 ?_
      refine lv_aload_n hx hb dX2_add_25 rfl (lv_at hl 0 rfl) ?_
      refine mx_get (ci := 2) (v := .int (nI t.length)) (C := RX2) (T := TX2) (N := 2) hx hb hts inX2 hown hK hP (by omega : k < n) h0 rfl 1 (by decide) (hts _ wm_22) (fun _ h9 => h9) rfl dX2_add_26 ?_
      refine lv_iload_n hx hb dX2_add_29 rfl (lv_at hl 1 rfl) ?_
      refine lv_sipush (v := 255) hx hb dX2_add_30 (by decide) ?_
      refine lv_iand hx hb dX2_add_33 ?_
      refine mx_i (nI (by8 x)) (by8_and x) ?_
      refine mx_iast hx hb hK hP hD hS (by omega : k + 1 < n) 0 h1 rfl (vp_in_nI hlt (by omega)) dX2_add_34 (fun H locs hP hS => ?_)
      obtain ⟨c1, ec1⟩ : ∃ z : Nat → va_E, z = va_up c (k + 1) (.inl (ca 0, cap, .inl (upd f (nI t.length).toNatClampNeg (nI (by8 x))))) := ⟨_, rfl⟩
      have hP : va_P D vwCl (mw n ad c1) H := by rw [ec1]; exact hP
      have hsc1 : ∀ j, j ≠ k + 1 → c1 j = c j := fun j h => by rw [ec1]; exact va_up_ne _ _ h
      have hcc1 : c1 (k + 1) = .inl (ca 0, cap, .inl (upd f (nI t.length).toNatClampNeg (nI (by8 x)))) := by rw [ec1]; exact va_up_self _ _ _
      have h0 := (hsc1 k (by omega)).trans h0
      refine lv_aload_n hx hb dX2_add_35 rfl (lv_at hl 0 rfl) ?_
      refine lv_dup hx hb dX2_add_36 rfl ?_
      refine mx_get (ci := 2) (v := .int (nI t.length)) (C := RX2) (T := TX2) (N := 2) hx hb hts inX2 hown hK hP (by omega : k < n) h0 rfl 1 (by decide) (hts _ wm_22) (fun _ h9 => h9) rfl dX2_add_37 ?_
      refine lv_iconst (v := 1) hx hb dX2_add_40 (by decide) ?_
      refine lv_iadd hx hb dX2_add_41 ?_
      refine mx_i (nI (t ++ [by8 x]).length) (by rw [List.length_append]; exact nI_1 _) ?_
      refine mx_put (ci := 2) (v := .int (nI (t ++ [by8 x]).length)) (ty := .int) (C := RX2) (T := TX2) (N := 2) hx hb hts inX2 tyX2 tyX2_ok nmX2 hown hK hP hD hS (by omega : k < n) h0 rfl 1 (by decide) (hts _ wm_22) (fun _ h9 => h9) rfl (by decide +kernel) rfl rfl (Nat.le_of_ble_eq_true rfl) dX2_add_42 (fun H locs hP hS => ?_)
      obtain ⟨c2, ec2⟩ : ∃ z : Nat → va_E, z = va_up c1 k (.inr (2, [.ref (ad (k + 1)), .int (nI (t ++ [by8 x]).length)])) := ⟨_, rfl⟩
      have hP : va_P D vwCl (mw n ad c2) H := by rw [ec2]; exact hP
      have hsc2 : ∀ j, j ≠ k → c2 j = c1 j := fun j h => by rw [ec2]; exact va_up_ne _ _ h
      have hcc2 : c2 k = .inr (2, [.ref (ad (k + 1)), .int (nI (t ++ [by8 x]).length)]) := by rw [ec2]; exact va_up_self _ _ _
      refine lv_iconst (v := 1) hx hb dX2_add_45 (by decide) ?_
      exact mx_zret hx hb hr hlocks rfl hP hS (Or.inl ⟨hlt, rfl, fun j h1 h2 => (hsc2 j h1).trans (hsc1 j h2), by rw [List.length_append]; exact hlt, hcp, tb_app hby (by8_lt x), hcc2, _, (hsc2 _ (by omega)).trans hcc1, tUpd hf (by omega)⟩) dX2_add_46
    · skip
      refine lv_iconst (v := 0) hx hb dX2_add_19 (by decide) ?_
      exact mx_zret hx hb hr hlocks rfl hP hS (Or.inr ⟨by have := (not_congr (nI_ltI (by omega) (by omega))).mp hc2; omega, rfl, rfl⟩) dX2_add_20
set_option maxHeartbeats 4000000 in
set_option maxRecDepth 100000 in
/-- Text.addFourBytes(x) -/
theorem c_Text_four (l : Launch) (D : va_G) (ca : Nat → ClassId) (n : Nat) (ad : Nat → Nat) (c : Nat → va_E) {k cap : Nat} {t : List Nat} (hk : k + 1 < n) (hT : tTx ca ad c k cap t) (hroom : t.length + 4 ≤ cap) (x : Int32) : mVoid l yX2_addFourBytes wsX2_addFourBytes ({ frames := 1, cells := 0, slots := 0, locals := 21 }) [.ref (ad k), .int x] D (tTY ca) n ad c (fun c' => tSm c c' k ∧ tTx ca ad c' k cap (t ++ tFour x)) := by
  intro sz
  refine Met.ofW (cc := cX2_addFourBytes) (maxL := 2) (ret := none) (by decide) rfl ?_
  intro pg9 ev9 s m args below meth cd s₁ B hml hv
  obtain ⟨rfl, hsz, hP, hK, hD0, hN⟩ := hv
  have hx := B.exec
  have hb := B.bytes
  have hr := B.returns
  have hts := fun (w : Cond) (h : w ∈ WSa) => atoms_spec (ws := wsX2_addFourBytes) B.pre w (List.mem_cons_of_mem _ h)
  have hown : s.vm.findClass RX2 = some m.cls := findClass_of_methodNamed B.named
  have hlocks := B.notSynchronized
  subst hsz
  have hD : ∀ c, va_D (fun _ => True) (mw n ad c) := fun c' => mw_D hD0 c'
  have hS : va_S (mA n ad s.heap.size) s.heap s.heap [] := va_S.rf
  have hl := lv_entry ([.ref (ad k), .int x]) (n := 2) (Nat.le_of_ble_eq_true rfl)
  rw [lg_entry_eq]
  generalize (lg_sl ([.ref (ad k), .int x]) ++ List.replicate (2 - (lg_sl ([.ref (ad k), .int x])).length) Slot.unset).toArray = ls at hl ⊢
  have hl : lv_has ls 2 [(0, .ref (ad k)), (1, .int x)] := hl
  refine lv_aload_n hx hb dX2_addFourBytes_0 rfl (lv_at hl 0 rfl) ?_
  refine lv_iload_n hx hb dX2_addFourBytes_1 rfl (lv_at hl 1 rfl) ?_
  refine lv_bipush (v := 24) hx hb dX2_addFourBytes_2 (by decide) ?_
  refine lv_iushr (v := (x.toUInt32 >>> ((24 : Int32).toUInt32 &&& Int32.toUInt32 31)).toInt32) hx hb dX2_addFourBytes_4 rfl ?_
  refine mx_ci (va_runV (As := [.int ((x.toUInt32 >>> ((24 : Int32).toUInt32 &&& Int32.toUInt32 31)).toInt32)]) (rest := []) ⟨hx, hb, hml, hown, hts⟩ (c_Text_add l D ca n ad c hk hT ((x.toUInt32 >>> ((24 : Int32).toUInt32 &&& Int32.toUInt32 31)).toInt32) _) (cwV 1 hts (gV wm_117 wm_118 wm_119 wm_2 wm_120) rfl rfl rfl (by decide +kernel) ⟨Nat.le_of_ble_eq_true rfl, Nat.le_of_ble_eq_true rfl⟩) (mx_pv (C := RX2) (T := TX2) (N := 2) (ci := 2) hK hP hD hN (by omega : k < n) hT.cell rfl) rfl rfl hl.1 rfl (lv_room (Nat.le_of_ble_eq_true rfl)) dX2_addFourBytes_5 ⟨Nat.zero_le _, Nat.zero_le _⟩) (Nat.le_refl _) hS (fun r0 c1 H locs hw hP hS => ?_)
  obtain ⟨-, -, hs1, hT1⟩ : _ ∧ _ ∧ tSm c c1 k ∧ tTx ca ad c1 k cap (t ++ [by8 ((x.toUInt32 >>> ((24 : Int32).toUInt32 &&& Int32.toUInt32 31)).toInt32)]) := hw.resolve_right (fun h => by have h9 := h.1; (try simp only [List.length_append, List.length_cons, List.length_nil] at h9); omega)
  refine lv_pop hx hb dX2_addFourBytes_8 rfl ?_
  refine lv_aload_n hx hb dX2_addFourBytes_9 rfl (lv_at hl 0 rfl) ?_
  refine lv_iload_n hx hb dX2_addFourBytes_10 rfl (lv_at hl 1 rfl) ?_
  refine lv_bipush (v := 16) hx hb dX2_addFourBytes_11 (by decide) ?_
  refine lv_iushr (v := (x.toUInt32 >>> ((16 : Int32).toUInt32 &&& Int32.toUInt32 31)).toInt32) hx hb dX2_addFourBytes_13 rfl ?_
  refine mx_ci (va_runV (As := [.int ((x.toUInt32 >>> ((16 : Int32).toUInt32 &&& Int32.toUInt32 31)).toInt32)]) (rest := []) ⟨hx, hb, hml, hown, hts⟩ (c_Text_add l D ca n ad c1 hk hT1 ((x.toUInt32 >>> ((16 : Int32).toUInt32 &&& Int32.toUInt32 31)).toInt32) _) (cwV 1 hts (gV wm_117 wm_118 wm_119 wm_2 wm_120) rfl rfl rfl (by decide +kernel) ⟨Nat.le_of_ble_eq_true rfl, Nat.le_of_ble_eq_true rfl⟩) (mx_pv (C := RX2) (T := TX2) (N := 2) (ci := 2) hK hP hD hN (by omega : k < n) hT1.cell rfl) rfl rfl hl.1 rfl (lv_room (Nat.le_of_ble_eq_true rfl)) dX2_addFourBytes_14 ⟨Nat.zero_le _, Nat.zero_le _⟩) (Nat.le_refl _) hS (fun r1 c2 H locs hw hP hS => ?_)
  obtain ⟨-, -, hs2, hT2⟩ : _ ∧ _ ∧ tSm c1 c2 k ∧ tTx ca ad c2 k cap ((t ++ [by8 ((x.toUInt32 >>> ((24 : Int32).toUInt32 &&& Int32.toUInt32 31)).toInt32)]) ++ [by8 ((x.toUInt32 >>> ((16 : Int32).toUInt32 &&& Int32.toUInt32 31)).toInt32)]) := hw.resolve_right (fun h => by have h9 := h.1; (try simp only [List.length_append, List.length_cons, List.length_nil] at h9); omega)
  refine lv_pop hx hb dX2_addFourBytes_17 rfl ?_
  refine lv_aload_n hx hb dX2_addFourBytes_18 rfl (lv_at hl 0 rfl) ?_
  refine lv_iload_n hx hb dX2_addFourBytes_19 rfl (lv_at hl 1 rfl) ?_
  refine lv_bipush (v := 8) hx hb dX2_addFourBytes_20 (by decide) ?_
  refine lv_iushr (v := (x.toUInt32 >>> ((8 : Int32).toUInt32 &&& Int32.toUInt32 31)).toInt32) hx hb dX2_addFourBytes_22 rfl ?_
  refine mx_ci (va_runV (As := [.int ((x.toUInt32 >>> ((8 : Int32).toUInt32 &&& Int32.toUInt32 31)).toInt32)]) (rest := []) ⟨hx, hb, hml, hown, hts⟩ (c_Text_add l D ca n ad c2 hk hT2 ((x.toUInt32 >>> ((8 : Int32).toUInt32 &&& Int32.toUInt32 31)).toInt32) _) (cwV 1 hts (gV wm_117 wm_118 wm_119 wm_2 wm_120) rfl rfl rfl (by decide +kernel) ⟨Nat.le_of_ble_eq_true rfl, Nat.le_of_ble_eq_true rfl⟩) (mx_pv (C := RX2) (T := TX2) (N := 2) (ci := 2) hK hP hD hN (by omega : k < n) hT2.cell rfl) rfl rfl hl.1 rfl (lv_room (Nat.le_of_ble_eq_true rfl)) dX2_addFourBytes_23 ⟨Nat.zero_le _, Nat.zero_le _⟩) (Nat.le_refl _) hS (fun r2 c3 H locs hw hP hS => ?_)
  obtain ⟨-, -, hs3, hT3⟩ : _ ∧ _ ∧ tSm c2 c3 k ∧ tTx ca ad c3 k cap ((t ++ [by8 ((x.toUInt32 >>> ((24 : Int32).toUInt32 &&& Int32.toUInt32 31)).toInt32)] ++ [by8 ((x.toUInt32 >>> ((16 : Int32).toUInt32 &&& Int32.toUInt32 31)).toInt32)]) ++ [by8 ((x.toUInt32 >>> ((8 : Int32).toUInt32 &&& Int32.toUInt32 31)).toInt32)]) := hw.resolve_right (fun h => by have h9 := h.1; (try simp only [List.length_append, List.length_cons, List.length_nil] at h9); omega)
  refine lv_pop hx hb dX2_addFourBytes_26 rfl ?_
  refine lv_aload_n hx hb dX2_addFourBytes_27 rfl (lv_at hl 0 rfl) ?_
  refine lv_iload_n hx hb dX2_addFourBytes_28 rfl (lv_at hl 1 rfl) ?_
  refine mx_ci (va_runV (As := [.int x]) (rest := []) ⟨hx, hb, hml, hown, hts⟩ (c_Text_add l D ca n ad c3 hk hT3 x _) (cwV 1 hts (gV wm_117 wm_118 wm_119 wm_2 wm_120) rfl rfl rfl (by decide +kernel) ⟨Nat.le_of_ble_eq_true rfl, Nat.le_of_ble_eq_true rfl⟩) (mx_pv (C := RX2) (T := TX2) (N := 2) (ci := 2) hK hP hD hN (by omega : k < n) hT3.cell rfl) rfl rfl hl.1 rfl (lv_room (Nat.le_of_ble_eq_true rfl)) dX2_addFourBytes_29 ⟨Nat.zero_le _, Nat.zero_le _⟩) (Nat.le_refl _) hS (fun r3 c4 H locs hw hP hS => ?_)
  obtain ⟨-, -, hs4, hT4⟩ : _ ∧ _ ∧ tSm c3 c4 k ∧ tTx ca ad c4 k cap ((t ++ [by8 ((x.toUInt32 >>> ((24 : Int32).toUInt32 &&& Int32.toUInt32 31)).toInt32)] ++ [by8 ((x.toUInt32 >>> ((16 : Int32).toUInt32 &&& Int32.toUInt32 31)).toInt32)] ++ [by8 ((x.toUInt32 >>> ((8 : Int32).toUInt32 &&& Int32.toUInt32 31)).toInt32)]) ++ [by8 x]) := hw.resolve_right (fun h => by have h9 := h.1; (try simp only [List.length_append, List.length_cons, List.length_nil] at h9); omega)
  refine lv_pop hx hb dX2_addFourBytes_32 rfl ?_
  exact mx_vret hx hb hr hlocks hP hS (⟨((hs1.tr hs2).tr hs3).tr hs4, by have h9 := hT4; simp only [List.append_assoc] at h9; exact h9⟩) dX2_addFourBytes_33
set_option maxHeartbeats 4000000 in
set_option maxRecDepth 100000 in
/-- Text.addMany(b, y) -/
theorem c_Text_many (l : Launch) (D : va_G) (ca : Nat → ClassId) (n : Nat) (ad : Nat → Nat) (c : Nat → va_E) {k cap : Nat} {t : List Nat} (hk : k + 1 < n) (hT : tTx ca ad c k cap t) (b y : Int32) (q0 : Nat) (hy : y = nI q0) (hroom : t.length + q0 ≤ cap) : mVoid l yX2_addMany wsX2_addMany ({ frames := 1, cells := 0, slots := 0, locals := 21 }) [.ref (ad k), .int b, .int y] D (tTY ca) n ad c (fun c' => tSm c c' k ∧ tTx ca ad c' k cap (t ++ List.replicate q0 (by8 b))) := by
  intro sz
  refine Met.ofW (cc := cX2_addMany) (maxL := 4) (ret := none) (by decide) rfl ?_
  intro pg9 ev9 s m args below meth cd s₁ B hml hv
  obtain ⟨rfl, hsz, hP, hK, hD0, hN⟩ := hv
  have hx := B.exec
  have hb := B.bytes
  have hr := B.returns
  have hts := fun (w : Cond) (h : w ∈ WSa) => atoms_spec (ws := wsX2_addMany) B.pre w (List.mem_cons_of_mem _ h)
  have hown : s.vm.findClass RX2 = some m.cls := findClass_of_methodNamed B.named
  have hlocks := B.notSynchronized
  subst hsz
  have hD : ∀ c, va_D (fun _ => True) (mw n ad c) := fun c' => mw_D hD0 c'
  have hS : va_S (mA n ad s.heap.size) s.heap s.heap [] := va_S.rf
  have hl := lv_entry ([.ref (ad k), .int b, .int y]) (n := 4) (Nat.le_of_ble_eq_true rfl)
  rw [lg_entry_eq]
  generalize (lg_sl ([.ref (ad k), .int b, .int y]) ++ List.replicate (4 - (lg_sl ([.ref (ad k), .int b, .int y])).length) Slot.unset).toArray = ls at hl ⊢
  have hl : lv_has ls 4 [(0, .ref (ad k)), (1, .int b), (2, .int y)] := hl
  have hcp := hT.cap
  have loop : ∀ (q1 : Nat) (i : Nat) (c1 : Nat → va_E) (H : Heap) (locs : List Loc) (ls : Array Slot), (i ≤ q0) → (q0 < i + q1) → (tSm c c1 k) → (tTx ca ad c1 k cap (t ++ List.replicate i (by8 b))) → va_P D vwCl (mw n ad c1) H → va_S (mA n ad s.heap.size) s.heap H locs → lv_has ls 4 [(3, .int (nI i)), (0, .ref (ad k)), (1, .int b), (2, .int y)] → W pg9 l ev9 (headSpec wsX2_addMany ({ frames := 1, cells := 0, slots := 0, locals := 21 })).room s m ([.ref (ad k), .int b, .int y] : List Value).toArray below meth cd H locs 0 0 (MQ below (va_Qv (fun c' => tSm c c' k ∧ tTx ca ad c' k cap (t ++ List.replicate q0 (by8 b))) (mW D n ad) (mA n ad s.heap.size)) ([.ref (ad k), .int b, .int y] : List Value).toArray s 0 0 (mA n ad s.heap.size)) (F0 m 2 ls []) := by
    intro q1
    induction q1 with
    | zero => intro i c1 H locs ls hi hq hs1 hT1 hP hS hl; omega
    | succ q1 ih =>
      intro i c1 H locs ls hi hq hs1 hT1 hP hS hl
      refine lv_iload_n hx hb dX2_addMany_2 rfl (lv_at hl 0 rfl) ?_
      refine lv_iload_n hx hb dX2_addMany_3 rfl (lv_at hl 3 rfl) ?_
      refine lv_icmp_ge (tgt := 19) hx hb dX2_addMany_4 (by decide) (fun hc => ?_) (fun hc => ?_)
      · skip
        have hge : q0 ≤ i := (nI_leI (by omega) (by omega)).mp (by rw [← hy]; exact hc)
        obtain rfl : i = q0 := by omega
        exact mx_vret hx hb hr hlocks hP hS (⟨hs1, hT1⟩) dX2_addMany_19
      · skip
        have hlt : i < q0 := by rcases Nat.lt_or_ge i q0 with h | h; exact h; exact absurd (by rw [hy]; exact nI_le h (by omega)) hc
        refine lv_aload_n hx hb dX2_addMany_7 rfl (lv_at hl 1 rfl) ?_
        refine lv_iload_n hx hb dX2_addMany_8 rfl (lv_at hl 2 rfl) ?_
        refine mx_ci (va_runV (As := [.int b]) (rest := []) ⟨hx, hb, hml, hown, hts⟩ (c_Text_add l D ca n ad c1 hk hT1 b _) (cwV 1 hts (gV wm_117 wm_118 wm_119 wm_2 wm_120) rfl rfl rfl (by decide +kernel) ⟨Nat.le_of_ble_eq_true rfl, Nat.le_of_ble_eq_true rfl⟩) (mx_pv (C := RX2) (T := TX2) (N := 2) (ci := 2) hK hP hD hN (by omega : k < n) hT1.cell rfl) rfl rfl hl.1 rfl (lv_room (Nat.le_of_ble_eq_true rfl)) dX2_addMany_9 ⟨Nat.zero_le _, Nat.zero_le _⟩) (Nat.le_refl _) hS (fun r c2 H locs hw hP hS => ?_)
        obtain ⟨-, -, hs2, hT2⟩ : _ ∧ _ ∧ tSm c1 c2 k ∧ tTx ca ad c2 k cap ((t ++ List.replicate i (by8 b)) ++ [by8 b]) := hw.resolve_right (fun h => by have h9 := h.1; simp only [List.length_append, List.length_replicate] at h9; omega)
        refine lv_pop hx hb dX2_addMany_12 rfl ?_
        refine lv_iinc (v := nI (i + 1)) (lv' := [(3, .int (nI (i + 1))), (0, .ref (ad k)), (1, .int b), (2, .int y)]) hx hb dX2_addMany_13 hl (k := 0) rfl (nI_1 i) (by decide) rfl (fun ls hl => ?_)
        refine lv_goto (tgt := 2) hx hb dX2_addMany_16 (by decide) ?_
        exact ih (i + 1) c2 H locs ls (by omega) (by omega) (hs1.tr hs2) (by rw [List.replicate_succ', ← List.append_assoc]; exact hT2) hP hS (lv_sub hl [0, 1, 2, 3] rfl)
  refine lv_iconst (v := 0) hx hb dX2_addMany_0 (by decide) ?_
  refine lv_istore_n (lv' := [(3, .int 0), (0, .ref (ad k)), (1, .int b), (2, .int y)]) hx hb dX2_addMany_1 rfl hl (by decide) rfl (fun ls hl => ?_)
  exact loop (q0 + 1) 0 c _ _ ls (Nat.zero_le _) (by omega) tSm.rf (by rw [List.replicate_zero, List.append_nil]; exact hT) hP hS (by have h9 := (lv_sub hl [0, 1, 2, 3] rfl); rw [nI_0]; exact h9)
set_option maxHeartbeats 4000000 in
set_option maxRecDepth 100000 in
/-- Text.addText(other) -/
theorem c_Text_text (l : Launch) (D : va_G) (ca : Nat → ClassId) (n : Nat) (ad : Nat → Nat) (c : Nat → va_E) {k cap : Nat} {t : List Nat} (hk : k + 1 < n) (hT : tTx ca ad c k cap t) {k2 cap2 : Nat} {t2 : List Nat} (hk2 : k2 + 1 < n) (hT2 : tTx ca ad c k2 cap2 t2) (hd : k2 ≠ k ∧ k2 ≠ k + 1 ∧ k2 + 1 ≠ k) (hroom : t.length + t2.length ≤ cap) : mVoid l yX2_addText wsX2_addText ({ frames := 1, cells := 0, slots := 0, locals := 21 }) [.ref (ad k), .ref (ad k2)] D (tTY ca) n ad c (fun c' => tSm c c' k ∧ tTx ca ad c' k cap (t ++ t2)) := by
  intro sz
  refine Met.ofW (cc := cX2_addText) (maxL := 4) (ret := none) (by decide) rfl ?_
  intro pg9 ev9 s m args below meth cd s₁ B hml hv
  obtain ⟨rfl, hsz, hP, hK, hD0, hN⟩ := hv
  have hx := B.exec
  have hb := B.bytes
  have hr := B.returns
  have hts := fun (w : Cond) (h : w ∈ WSa) => atoms_spec (ws := wsX2_addText) B.pre w (List.mem_cons_of_mem _ h)
  have hown : s.vm.findClass RX2 = some m.cls := findClass_of_methodNamed B.named
  have hlocks := B.notSynchronized
  subst hsz
  have hD : ∀ c, va_D (fun _ => True) (mw n ad c) := fun c' => mw_D hD0 c'
  have hS : va_S (mA n ad s.heap.size) s.heap s.heap [] := va_S.rf
  have hl := lv_entry ([.ref (ad k), .ref (ad k2)]) (n := 4) (Nat.le_of_ble_eq_true rfl)
  rw [lg_entry_eq]
  generalize (lg_sl ([.ref (ad k), .ref (ad k2)]) ++ List.replicate (4 - (lg_sl ([.ref (ad k), .ref (ad k2)])).length) Slot.unset).toArray = ls at hl ⊢
  have hl : lv_has ls 4 [(0, .ref (ad k)), (1, .ref (ad k2))] := hl
  have hcp := hT.cap
  have hcp2 := hT2.cap
  have hle2 := hT2.le
  have loop : ∀ (q1 : Nat) (i : Nat) (c1 : Nat → va_E) (H : Heap) (locs : List Loc) (ls : Array Slot), (i ≤ t2.length) → (t2.length < i + q1) → (tSm c c1 k) → (tTx ca ad c1 k cap (t ++ t2.take i)) → va_P D vwCl (mw n ad c1) H → va_S (mA n ad s.heap.size) s.heap H locs → lv_has ls 4 [(3, .int (nI i)), (2, .int (nI t2.length)), (0, .ref (ad k)), (1, .ref (ad k2))] → W pg9 l ev9 (headSpec wsX2_addText ({ frames := 1, cells := 0, slots := 0, locals := 21 })).room s m ([.ref (ad k), .ref (ad k2)] : List Value).toArray below meth cd H locs 0 0 (MQ below (va_Qv (fun c' => tSm c c' k ∧ tTx ca ad c' k cap (t ++ t2)) (mW D n ad) (mA n ad s.heap.size)) ([.ref (ad k), .ref (ad k2)] : List Value).toArray s 0 0 (mA n ad s.heap.size)) (F0 m 7 ls []) := by
    intro q1
    induction q1 with
    | zero => intro i c1 H locs ls hi hq hs1 hT1 hP hS hl; omega
    | succ q1 ih =>
      intro i c1 H locs ls hi hq hs1 hT1 hP hS hl
      have hT3 : tTx ca ad c1 k2 cap2 t2 := hT2.keep (hs1 _ hd.1 hd.2.1) (hs1 _ hd.2.2 (by omega))
      refine lv_iload_n hx hb dX2_addText_7 rfl (lv_at hl 0 rfl) ?_
      refine lv_iload_n hx hb dX2_addText_8 rfl (lv_at hl 1 rfl) ?_
      refine lv_icmp_ge (tgt := 28) hx hb dX2_addText_9 (by decide) (fun hc => ?_) (fun hc => ?_)
      · skip
        have hge : t2.length ≤ i := (nI_leI (by omega) (by omega)).mp hc
        exact mx_vret hx hb hr hlocks hP hS (⟨hs1, by rw [List.take_of_length_le hge] at hT1; exact hT1⟩) dX2_addText_28
      · skip
        have hlt : i < t2.length := by rcases Nat.lt_or_ge i t2.length with h | h; exact h; exact absurd (nI_le h (by omega)) hc
        refine lv_aload_n hx hb dX2_addText_12 rfl (lv_at hl 2 rfl) ?_
        refine lv_aload_n hx hb dX2_addText_13 rfl (lv_at hl 3 rfl) ?_
        refine lv_iload_n hx hb dX2_addText_14 rfl (lv_at hl 0 rfl) ?_
        refine mx_ci (va_runV (As := [.int (nI i)]) (rest := [.ref (ad k)]) ⟨hx, hb, hml, hown, hts⟩ (c_Text_at l D ca n ad c1 hk2 hT3 (nI i) _) (cwV 1 hts (gV wm_141 wm_142 wm_143 wm_2 wm_144) rfl rfl rfl (by decide +kernel) ⟨Nat.le_of_ble_eq_true rfl, Nat.le_of_ble_eq_true rfl⟩) (mx_pv (C := RX2) (T := TX2) (N := 2) (ci := 2) hK hP hD hN (by omega : k2 < n) hT3.cell rfl) rfl rfl hl.1 rfl (lv_room (Nat.le_of_ble_eq_true rfl)) dX2_addText_15 ⟨Nat.zero_le _, Nat.zero_le _⟩) (Nat.le_refl _) hS (fun r1 c2 H locs hw hP hS => ?_)
        obtain ⟨hr1, hcE⟩ := hw
        rw [hcE] at hP
        refine mx_i (nI (t2.getD i 0)) (by rw [hr1, tAtI_nI (by omega)]; exact if_pos hlt) ?_
        refine mx_ci (va_runV (As := [.int (nI (t2.getD i 0))]) (rest := []) ⟨hx, hb, hml, hown, hts⟩ (c_Text_add l D ca n ad c1 hk hT1 (nI (t2.getD i 0)) _) (cwV 1 hts (gV wm_117 wm_118 wm_119 wm_2 wm_120) rfl rfl rfl (by decide +kernel) ⟨Nat.le_of_ble_eq_true rfl, Nat.le_of_ble_eq_true rfl⟩) (mx_pv (C := RX2) (T := TX2) (N := 2) (ci := 2) hK hP hD hN (by omega : k < n) hT1.cell rfl) rfl rfl hl.1 rfl (lv_room (Nat.le_of_ble_eq_true rfl)) dX2_addText_18 ⟨Nat.zero_le _, Nat.zero_le _⟩) (Nat.le_refl _) hS (fun r c2 H locs hw hP hS => ?_)
        obtain ⟨-, -, hs2, hT4⟩ := hw.resolve_right (fun h => by have h9 := h.1; simp only [List.length_append, List.length_take] at h9; omega)
        refine lv_pop hx hb dX2_addText_21 rfl ?_
        refine lv_iinc (v := nI (i + 1)) (lv' := [(3, .int (nI (i + 1))), (2, .int (nI t2.length)), (0, .ref (ad k)), (1, .ref (ad k2))]) hx hb dX2_addText_22 hl (k := 0) rfl (nI_1 i) (by decide) rfl (fun ls hl => ?_)
        refine lv_goto (tgt := 7) hx hb dX2_addText_25 (by decide) ?_
        exact ih (i + 1) c2 H locs ls (by omega) (by omega) (hs1.tr hs2) (by rw [tk_succ hlt, ← List.append_assoc]; rw [by8_nI (hT2.b8 _ (gD_mem hlt))] at hT4; exact hT4) hP hS (lv_sub hl [0, 1, 2, 3] rfl)
  refine lv_aload_n hx hb dX2_addText_0 rfl (lv_at hl 1 rfl) ?_
  refine mx_get (ci := 2) (v := .int (nI t2.length)) (C := RX2) (T := TX2) (N := 2) hx hb hts inX2 hown hK hP (by omega : k2 < n) hT2.cell rfl 1 (by decide) (hts _ wm_22) (fun _ h9 => h9) rfl dX2_addText_1 ?_
  refine lv_istore_n (lv' := [(2, .int (nI t2.length)), (0, .ref (ad k)), (1, .ref (ad k2))]) hx hb dX2_addText_4 rfl hl (by decide) rfl (fun ls hl => ?_)
  refine lv_iconst (v := 0) hx hb dX2_addText_5 (by decide) ?_
  refine lv_istore_n (lv' := [(3, .int 0), (2, .int (nI t2.length)), (0, .ref (ad k)), (1, .ref (ad k2))]) hx hb dX2_addText_6 rfl hl (by decide) rfl (fun ls hl => ?_)
  exact loop (t2.length + 1) 0 c _ _ ls (Nat.zero_le _) (by omega) tSm.rf (by rw [List.take_zero, List.append_nil]; exact hT) hP hS (by have h9 := (lv_sub hl [0, 1, 2, 3] rfl); rw [nI_0]; exact h9)
end
section
set_option maxHeartbeats 4000000 in
set_option maxRecDepth 100000 in
/-- Text.addDecimalDigits(v) -/
theorem c_Text_dec (l : Launch) (D : va_G) (ca : Nat → ClassId) (n : Nat) (ad : Nat → Nat) (c : Nat → va_E) {k cap : Nat} {t : List Nat} (hk : k + 1 < n) (hT : tTx ca ad c k cap t) (v : Int64) (hroom : t.length + 19 ≤ cap) : mVoid l yX2_addDecimalDigits wsX2_addDecimalDigits ({ frames := 1, cells := 0, slots := 0, locals := 21 }) [.ref (ad k), .long v] D (tTY ca) n ad c (fun c' => tSm c c' k ∧ tTx ca ad c' k cap (t ++ tDec v)) := by
  intro sz
  refine Met.ofW (cc := cX2_addDecimalDigits) (maxL := 7) (ret := none) (by decide) rfl ?_
  intro pg9 ev9 s m args below meth cd s₁ B hml hv
  obtain ⟨rfl, hsz, hP, hK, hD0, hN⟩ := hv
  have hx := B.exec
  have hb := B.bytes
  have hr := B.returns
  have hts := fun (w : Cond) (h : w ∈ WSa) => atoms_spec (ws := wsX2_addDecimalDigits) B.pre w (List.mem_cons_of_mem _ h)
  have hown : s.vm.findClass RX2 = some m.cls := findClass_of_methodNamed B.named
  have hlocks := B.notSynchronized
  subst hsz
  have hD : ∀ c, va_D (fun _ => True) (mw n ad c) := fun c' => mw_D hD0 c'
  have hS : va_S (mA n ad s.heap.size) s.heap s.heap [] := va_S.rf
  have hl := lv_entry ([.ref (ad k), .long v]) (n := 7) (Nat.le_of_ble_eq_true rfl)
  rw [lg_entry_eq]
  generalize (lg_sl ([.ref (ad k), .long v]) ++ List.replicate (7 - (lg_sl ([.ref (ad k), .long v])).length) Slot.unset).toArray = ls at hl ⊢
  have hl : lv_has ls 7 [(0, .ref (ad k)), (1, .long v)] := hl
  have hcp := hT.cap
  have loop : ∀ (q1 : Nat) (e : Nat) (b : Bool) (t1 : List Nat) (c1 : Nat → va_E) (H : Heap) (locs : List Loc) (ls : Array Slot), (e ≤ 19) → (e < q1) → (t1.length + e ≤ cap) → (tSm c c1 k) → (tTx ca ad c1 k cap t1) → (t ++ dgF (dDig v) dCh 19 false = t1 ++ dgF (dDig v) dCh e b) → va_P D vwCl (mw n ad c1) H → va_S (mA n ad s.heap.size) s.heap H locs → lv_has ls 7 [(3, .int (bI b)), (4, .long (tU e)), (0, .ref (ad k)), (1, .long v)] → W pg9 l ev9 (headSpec wsX2_addDecimalDigits ({ frames := 1, cells := 0, slots := 0, locals := 21 })).room s m ([.ref (ad k), .long v] : List Value).toArray below meth cd H locs 0 0 (MQ below (va_Qv (fun c' => tSm c c' k ∧ tTx ca ad c' k cap (t ++ tDec v)) (mW D n ad) (mA n ad s.heap.size)) ([.ref (ad k), .long v] : List Value).toArray s 0 0 (mA n ad s.heap.size)) (F0 m 7 ls []) := by
    intro q1
    induction q1 with
    | zero => intro e b t1 c1 H locs ls he hq hrm hs1 hT1 heq hP hS hl; omega
    | succ q1 ih =>
      intro e b t1 c1 H locs ls he hq hrm hs1 hT1 heq hP hS hl
      refine lv_lload hx hb dX2_addDecimalDigits_7 (lv_at hl 1 rfl) ?_
      refine lv_lconst (v := 0) hx hb dX2_addDecimalDigits_9 (by decide) ?_
      refine W.lcmp hx hb dX2_addDecimalDigits_10 ?_
      refine lv_if_le (tgt := 75) hx hb dX2_addDecimalDigits_11 (by decide) (fun hc => ?_) (fun hc => ?_)
      · skip
        have he0 : e = 0 := by
          rcases e with _ | e
          · rfl
          · exact absurd ((lg_cmp_le _ _).mp hc) (tU_pos e (by omega))
        exact mx_vret hx hb hr hlocks hP hS (⟨hs1, by have h9 := heq; rw [he0] at h9; unfold tDec; rw [h9]; show tTx ca ad c1 k cap (t1 ++ []); rw [List.append_nil]; exact hT1⟩) dX2_addDecimalDigits_75
      · skip
        obtain ⟨e1, he1⟩ : ∃ e1, e = e1 + 1 := by
          rcases e with _ | e
          · exact absurd ((lg_cmp_le _ _).mpr (by decide)) hc
          · exact ⟨e, rfl⟩
        refine lv_lload_n hx hb dX2_addDecimalDigits_14 rfl (lv_at hl 3 rfl) ?_
        refine lv_lload hx hb dX2_addDecimalDigits_15 (lv_at hl 1 rfl) ?_
        refine lv_ldiv hx hb dX2_addDecimalDigits_17 (by rw [he1]; exact tU_ne e1 (by omega)) ?_
        refine lv_ldc2 (v := 10) hx hb hown (hts _ wm_167) dX2_addDecimalDigits_18 ?_
        refine lv_lrem hx hb dX2_addDecimalDigits_21 (by decide) ?_
        refine lv_l2i (v := ((v / (tU e)) - (v / (tU e)) / 10 * 10).toInt32) hx hb dX2_addDecimalDigits_22 rfl ?_
        refine va_mabs hx hb (by rw [hml]; exact hl.1.symm) hown (hts _ wm_168) (hts _ wm_169) (hts _ wm_6) (hts _ wm_170) (Nat.le_of_ble_eq_true rfl) (Nat.le_of_ble_eq_true rfl) (Nat.zero_le _) (Nat.zero_le _) dX2_addDecimalDigits_23 ?_
        refine mx_i (nI (dDig v e1)) (by rw [he1]; exact dDig_eq v (by omega)) ?_
        refine lv_istore (lv' := [(6, .int (nI (dDig v e1))), (3, .int (bI b)), (4, .long (tU e)), (0, .ref (ad k)), (1, .long v)]) hx hb dX2_addDecimalDigits_26 hl (by decide) rfl (fun ls hl => ?_)
        refine lv_iload_n hx hb dX2_addDecimalDigits_28 rfl (lv_at hl 1 rfl) ?_
        refine lv_if_ne (tgt := 44) hx hb dX2_addDecimalDigits_29 (by decide) (fun hc1 => ?_) (fun hc1 => ?_)
        · skip
          refine lv_iconst (v := 1) hx hb dX2_addDecimalDigits_44 (by decide) ?_
          refine lv_goto (tgt := 49) hx hb dX2_addDecimalDigits_45 (by decide) ?_
          refine lv_istore_n (lv' := [(3, .int 1), (6, .int (nI (dDig v e1))), (4, .long (tU e)), (0, .ref (ad k)), (1, .long v)]) hx hb dX2_addDecimalDigits_49 rfl hl (by decide) rfl (fun ls hl => ?_)
          refine lv_iload_n hx hb dX2_addDecimalDigits_50 rfl (lv_at hl 0 rfl) ?_
          refine lv_if_eq (tgt := 64) hx hb dX2_addDecimalDigits_51 (by decide) (fun hc9 => ?_) (fun hc9 => ?_)
          · skip
            exact absurd hc9 (by decide)
          · skip
            refine lv_aload_n hx hb dX2_addDecimalDigits_54 rfl (lv_at hl 3 rfl) ?_
            refine lv_bipush (v := 48) hx hb dX2_addDecimalDigits_55 (by decide) ?_
            refine lv_iload hx hb dX2_addDecimalDigits_57 (lv_at hl 1 rfl) ?_
            refine lv_iadd hx hb dX2_addDecimalDigits_59 ?_
            refine mx_i (nI (48 + dDig v e1)) (by exact (nI_add 48 (dDig v e1))) ?_
            refine mx_ci (va_runV (As := [.int (nI (48 + dDig v e1))]) (rest := []) ⟨hx, hb, hml, hown, hts⟩ (c_Text_add l D ca n ad c1 hk hT1 (nI (48 + dDig v e1)) _) (cwV 1 hts (gV wm_117 wm_118 wm_119 wm_2 wm_120) rfl rfl rfl (by decide +kernel) ⟨Nat.le_of_ble_eq_true rfl, Nat.le_of_ble_eq_true rfl⟩) (mx_pv (C := RX2) (T := TX2) (N := 2) (ci := 2) hK hP hD hN (by omega : k < n) hT1.cell rfl) rfl rfl hl.1 rfl (lv_room (Nat.le_of_ble_eq_true rfl)) dX2_addDecimalDigits_60 ⟨Nat.zero_le _, Nat.zero_le _⟩) (Nat.le_refl _) hS (fun r c2 H locs hw hP hS => ?_)
            obtain ⟨-, -, hs2, hT2⟩ := hw.resolve_right (fun h => by have h9 := h.1; omega)
            refine lv_pop hx hb dX2_addDecimalDigits_63 rfl ?_
            refine lv_lload hx hb dX2_addDecimalDigits_64 (lv_at hl 2 rfl) ?_
            refine lv_ldc2 (v := 10) hx hb hown (hts _ wm_167) dX2_addDecimalDigits_66 ?_
            refine lv_ldiv hx hb dX2_addDecimalDigits_69 (by decide) ?_
            refine mx_l (tU e1) (by rw [he1]; exact tU_step e1 (by omega)) ?_
            refine lv_lstore (lv' := [(4, .long (tU e1)), (3, .int 1), (6, .int (nI (dDig v e1))), (0, .ref (ad k)), (1, .long v)]) hx hb dX2_addDecimalDigits_70 hl (by decide) rfl (fun ls hl => ?_)
            refine lv_goto (tgt := 7) hx hb dX2_addDecimalDigits_72 (by decide) ?_
            exact ih e1 true (t1 ++ [48 + dDig v e1]) c2 H locs ls (by omega) (by omega) (by rw [List.length_append]; simp only [List.length_cons, List.length_nil]; omega) (hs1.tr hs2) (by rw [by8_nI (by have := dDig_lt v e1; omega)] at hT2; exact hT2) (by rw [heq, he1, dgF_t (Or.inl (bI_ne hc1)), List.append_assoc]; rfl) hP hS (lv_sub hl [1, 0, 3, 4] rfl)
        · skip
          refine lv_iload hx hb dX2_addDecimalDigits_32 (lv_at hl 0 rfl) ?_
          refine lv_if_ne (tgt := 44) hx hb dX2_addDecimalDigits_34 (by decide) (fun hc2 => ?_) (fun hc2 => ?_)
          · skip
            refine lv_iconst (v := 1) hx hb dX2_addDecimalDigits_44 (by decide) ?_
            refine lv_goto (tgt := 49) hx hb dX2_addDecimalDigits_45 (by decide) ?_
            refine lv_istore_n (lv' := [(3, .int 1), (6, .int (nI (dDig v e1))), (4, .long (tU e)), (0, .ref (ad k)), (1, .long v)]) hx hb dX2_addDecimalDigits_49 rfl hl (by decide) rfl (fun ls hl => ?_)
            refine lv_iload_n hx hb dX2_addDecimalDigits_50 rfl (lv_at hl 0 rfl) ?_
            refine lv_if_eq (tgt := 64) hx hb dX2_addDecimalDigits_51 (by decide) (fun hc9 => ?_) (fun hc9 => ?_)
            · skip
              exact absurd hc9 (by decide)
            · skip
              refine lv_aload_n hx hb dX2_addDecimalDigits_54 rfl (lv_at hl 3 rfl) ?_
              refine lv_bipush (v := 48) hx hb dX2_addDecimalDigits_55 (by decide) ?_
              refine lv_iload hx hb dX2_addDecimalDigits_57 (lv_at hl 1 rfl) ?_
              refine lv_iadd hx hb dX2_addDecimalDigits_59 ?_
              refine mx_i (nI (48 + dDig v e1)) (by exact (nI_add 48 (dDig v e1))) ?_
              refine mx_ci (va_runV (As := [.int (nI (48 + dDig v e1))]) (rest := []) ⟨hx, hb, hml, hown, hts⟩ (c_Text_add l D ca n ad c1 hk hT1 (nI (48 + dDig v e1)) _) (cwV 1 hts (gV wm_117 wm_118 wm_119 wm_2 wm_120) rfl rfl rfl (by decide +kernel) ⟨Nat.le_of_ble_eq_true rfl, Nat.le_of_ble_eq_true rfl⟩) (mx_pv (C := RX2) (T := TX2) (N := 2) (ci := 2) hK hP hD hN (by omega : k < n) hT1.cell rfl) rfl rfl hl.1 rfl (lv_room (Nat.le_of_ble_eq_true rfl)) dX2_addDecimalDigits_60 ⟨Nat.zero_le _, Nat.zero_le _⟩) (Nat.le_refl _) hS (fun r c2 H locs hw hP hS => ?_)
              obtain ⟨-, -, hs2, hT2⟩ := hw.resolve_right (fun h => by have h9 := h.1; omega)
              refine lv_pop hx hb dX2_addDecimalDigits_63 rfl ?_
              refine lv_lload hx hb dX2_addDecimalDigits_64 (lv_at hl 2 rfl) ?_
              refine lv_ldc2 (v := 10) hx hb hown (hts _ wm_167) dX2_addDecimalDigits_66 ?_
              refine lv_ldiv hx hb dX2_addDecimalDigits_69 (by decide) ?_
              refine mx_l (tU e1) (by rw [he1]; exact tU_step e1 (by omega)) ?_
              refine lv_lstore (lv' := [(4, .long (tU e1)), (3, .int 1), (6, .int (nI (dDig v e1))), (0, .ref (ad k)), (1, .long v)]) hx hb dX2_addDecimalDigits_70 hl (by decide) rfl (fun ls hl => ?_)
              refine lv_goto (tgt := 7) hx hb dX2_addDecimalDigits_72 (by decide) ?_
              exact ih e1 true (t1 ++ [48 + dDig v e1]) c2 H locs ls (by omega) (by omega) (by rw [List.length_append]; simp only [List.length_cons, List.length_nil]; omega) (hs1.tr hs2) (by rw [by8_nI (by have := dDig_lt v e1; omega)] at hT2; exact hT2) (by rw [heq, he1, dgF_t (Or.inr (Or.inl (fun h => hc2 (by rw [h]; exact nI_0)))), List.append_assoc]; rfl) hP hS (lv_sub hl [1, 0, 3, 4] rfl)
          · skip
            have hd0 : dDig v e1 = 0 := (nI_eq (by have := dDig_lt v e1; omega) (by omega)).mp (by rw [hc2]; exact nI_0.symm)
            refine lv_lload hx hb dX2_addDecimalDigits_37 (lv_at hl 2 rfl) ?_
            refine lv_lconst (v := 1) hx hb dX2_addDecimalDigits_39 (by decide) ?_
            refine W.lcmp hx hb dX2_addDecimalDigits_40 ?_
            refine lv_if_ne (tgt := 48) hx hb dX2_addDecimalDigits_41 (by decide) (fun hc3 => ?_) (fun hc3 => ?_)
            · skip
              refine lv_iconst (v := 0) hx hb dX2_addDecimalDigits_48 (by decide) ?_
              refine lv_istore_n (lv' := [(3, .int 0), (6, .int (nI (dDig v e1))), (4, .long (tU e)), (0, .ref (ad k)), (1, .long v)]) hx hb dX2_addDecimalDigits_49 rfl hl (by decide) rfl (fun ls hl => ?_)
              refine lv_iload_n hx hb dX2_addDecimalDigits_50 rfl (lv_at hl 0 rfl) ?_
              refine lv_if_eq (tgt := 64) hx hb dX2_addDecimalDigits_51 (by decide) (fun hc9 => ?_) (fun hc9 => ?_)
              · skip
                refine lv_lload hx hb dX2_addDecimalDigits_64 (lv_at hl 2 rfl) ?_
                refine lv_ldc2 (v := 10) hx hb hown (hts _ wm_167) dX2_addDecimalDigits_66 ?_
                refine lv_ldiv hx hb dX2_addDecimalDigits_69 (by decide) ?_
                refine mx_l (tU e1) (by rw [he1]; exact tU_step e1 (by omega)) ?_
                refine lv_lstore (lv' := [(4, .long (tU e1)), (3, .int 0), (6, .int (nI (dDig v e1))), (0, .ref (ad k)), (1, .long v)]) hx hb dX2_addDecimalDigits_70 hl (by decide) rfl (fun ls hl => ?_)
                refine lv_goto (tgt := 7) hx hb dX2_addDecimalDigits_72 (by decide) ?_
                exact ih e1 false t1 c1 H locs ls (by omega) (by omega) (by omega) hs1 hT1 (by rw [heq, he1, dgF_f (bI_eq hc1) hd0 (fun h => hc3 ((lg_cmp_eq _ _).mpr (by rw [he1, h]; decide)))]) hP hS (lv_sub hl [1, 0, 3, 4] rfl)
              · skip
                exact absurd rfl hc9
            · skip
              refine lv_iconst (v := 1) hx hb dX2_addDecimalDigits_44 (by decide) ?_
              refine lv_goto (tgt := 49) hx hb dX2_addDecimalDigits_45 (by decide) ?_
              refine lv_istore_n (lv' := [(3, .int 1), (6, .int (nI (dDig v e1))), (4, .long (tU e)), (0, .ref (ad k)), (1, .long v)]) hx hb dX2_addDecimalDigits_49 rfl hl (by decide) rfl (fun ls hl => ?_)
              refine lv_iload_n hx hb dX2_addDecimalDigits_50 rfl (lv_at hl 0 rfl) ?_
              refine lv_if_eq (tgt := 64) hx hb dX2_addDecimalDigits_51 (by decide) (fun hc9 => ?_) (fun hc9 => ?_)
              · skip
                exact absurd hc9 (by decide)
              · skip
                refine lv_aload_n hx hb dX2_addDecimalDigits_54 rfl (lv_at hl 3 rfl) ?_
                refine lv_bipush (v := 48) hx hb dX2_addDecimalDigits_55 (by decide) ?_
                refine lv_iload hx hb dX2_addDecimalDigits_57 (lv_at hl 1 rfl) ?_
                refine lv_iadd hx hb dX2_addDecimalDigits_59 ?_
                refine mx_i (nI (48 + dDig v e1)) (by exact (nI_add 48 (dDig v e1))) ?_
                refine mx_ci (va_runV (As := [.int (nI (48 + dDig v e1))]) (rest := []) ⟨hx, hb, hml, hown, hts⟩ (c_Text_add l D ca n ad c1 hk hT1 (nI (48 + dDig v e1)) _) (cwV 1 hts (gV wm_117 wm_118 wm_119 wm_2 wm_120) rfl rfl rfl (by decide +kernel) ⟨Nat.le_of_ble_eq_true rfl, Nat.le_of_ble_eq_true rfl⟩) (mx_pv (C := RX2) (T := TX2) (N := 2) (ci := 2) hK hP hD hN (by omega : k < n) hT1.cell rfl) rfl rfl hl.1 rfl (lv_room (Nat.le_of_ble_eq_true rfl)) dX2_addDecimalDigits_60 ⟨Nat.zero_le _, Nat.zero_le _⟩) (Nat.le_refl _) hS (fun r c2 H locs hw hP hS => ?_)
                obtain ⟨-, -, hs2, hT2⟩ := hw.resolve_right (fun h => by have h9 := h.1; omega)
                refine lv_pop hx hb dX2_addDecimalDigits_63 rfl ?_
                refine lv_lload hx hb dX2_addDecimalDigits_64 (lv_at hl 2 rfl) ?_
                refine lv_ldc2 (v := 10) hx hb hown (hts _ wm_167) dX2_addDecimalDigits_66 ?_
                refine lv_ldiv hx hb dX2_addDecimalDigits_69 (by decide) ?_
                refine mx_l (tU e1) (by rw [he1]; exact tU_step e1 (by omega)) ?_
                refine lv_lstore (lv' := [(4, .long (tU e1)), (3, .int 1), (6, .int (nI (dDig v e1))), (0, .ref (ad k)), (1, .long v)]) hx hb dX2_addDecimalDigits_70 hl (by decide) rfl (fun ls hl => ?_)
                refine lv_goto (tgt := 7) hx hb dX2_addDecimalDigits_72 (by decide) ?_
                exact ih e1 true (t1 ++ [48 + dDig v e1]) c2 H locs ls (by omega) (by omega) (by rw [List.length_append]; simp only [List.length_cons, List.length_nil]; omega) (hs1.tr hs2) (by rw [by8_nI (by have := dDig_lt v e1; omega)] at hT2; exact hT2) (by rw [heq, he1, dgF_t (Or.inr (Or.inr ((tU_one e1 (by omega)).mp (by rw [← he1]; exact (lg_cmp_eq _ _).mp hc3)))), List.append_assoc]; rfl) hP hS (lv_sub hl [1, 0, 3, 4] rfl)
  refine lv_iconst (v := 0) hx hb dX2_addDecimalDigits_0 (by decide) ?_
  refine lv_istore_n (lv' := [(3, .int 0), (0, .ref (ad k)), (1, .long v)]) hx hb dX2_addDecimalDigits_1 rfl hl (by decide) rfl (fun ls hl => ?_)
  refine lv_ldc2 (v := 1000000000000000000) hx hb hown (hts _ wm_166) dX2_addDecimalDigits_2 ?_
  refine lv_lstore (lv' := [(4, .long 1000000000000000000), (3, .int 0), (0, .ref (ad k)), (1, .long v)]) hx hb dX2_addDecimalDigits_5 hl (by decide) rfl (fun ls hl => ?_)
  exact loop 20 19 false t c _ _ ls (by omega) (by omega) hroom tSm.rf hT rfl hP hS (by have h9 := (lv_sub hl [1, 0, 2, 3] rfl); exact h9)
set_option maxHeartbeats 4000000 in
set_option maxRecDepth 100000 in
/-- Text.addBits -/
theorem c_Text_bits (l : Launch) (D : va_G) (ca : Nat → ClassId) (n : Nat) (ad : Nat → Nat) (c : Nat → va_E) {k cap : Nat} {t : List Nat} (hk : k + 1 < n) (hT : tTx ca ad c k cap t) (v : Int64) (x3 x4 x5 : Int32) (mo bt lb : Nat) (h3 : x3 = nI mo) (h4 : x4 = nI bt) (h5 : x5 = nI lb) (hbt : bt = 3 ∨ bt = 4) (hmo : mo * bt ≤ 66) (hmo2 : mo ≤ 22) (hlb : 10 ≤ lb ∧ lb < 200) (hroom : t.length + mo ≤ cap) : mVoid l yX2_addBits wsX2_addBits ({ frames := 1, cells := 0, slots := 0, locals := 21 }) [.ref (ad k), .long v, .int x3, .int x4, .int x5] D (tTY ca) n ad c (fun c' => tSm c c' k ∧ tTx ca ad c' k cap (t ++ tBits v mo bt lb)) := by
  intro sz
  refine Met.ofW (cc := cX2_addBits) (maxL := 10) (ret := none) (by decide) rfl ?_
  intro pg9 ev9 s m args below meth cd s₁ B hml hv
  obtain ⟨rfl, hsz, hP, hK, hD0, hN⟩ := hv
  have hx := B.exec
  have hb := B.bytes
  have hr := B.returns
  have hts := fun (w : Cond) (h : w ∈ WSa) => atoms_spec (ws := wsX2_addBits) B.pre w (List.mem_cons_of_mem _ h)
  have hown : s.vm.findClass RX2 = some m.cls := findClass_of_methodNamed B.named
  have hlocks := B.notSynchronized
  subst hsz
  have hD : ∀ c, va_D (fun _ => True) (mw n ad c) := fun c' => mw_D hD0 c'
  have hS : va_S (mA n ad s.heap.size) s.heap s.heap [] := va_S.rf
  have hl := lv_entry ([.ref (ad k), .long v, .int x3, .int x4, .int x5]) (n := 10) (Nat.le_of_ble_eq_true rfl)
  rw [lg_entry_eq]
  generalize (lg_sl ([.ref (ad k), .long v, .int x3, .int x4, .int x5]) ++ List.replicate (10 - (lg_sl ([.ref (ad k), .long v, .int x3, .int x4, .int x5])).length) Slot.unset).toArray = ls at hl ⊢
  have hl : lv_has ls 10 [(0, .ref (ad k)), (1, .long v), (3, .int x3), (4, .int x4), (5, .int x5)] := hl
  have hcp := hT.cap
  have hbt4 : bt ≤ 4 := by omega
  have loop : ∀ (q1 : Nat) (e : Nat) (b : Bool) (t1 : List Nat) (c1 : Nat → va_E) (H : Heap) (locs : List Loc) (ls : Array Slot), (e ≤ mo) → (e < q1) → (t1.length + e ≤ cap) → (tSm c c1 k) → (tTx ca ad c1 k cap t1) → (t ++ dgF (bDig v bt) (bCh lb) mo false = t1 ++ dgF (bDig v bt) (bCh lb) e b) → va_P D vwCl (mw n ad c1) H → va_S (mA n ad s.heap.size) s.heap H locs → lv_has ls 10 [(8, .int (tI e)), (7, .int (bI b)), (6, .int ((1 <<< (x4 &&& 31)) - 1)), (0, .ref (ad k)), (1, .long v), (4, .int x4), (5, .int x5)] → W pg9 l ev9 (headSpec wsX2_addBits ({ frames := 1, cells := 0, slots := 0, locals := 21 })).room s m ([.ref (ad k), .long v, .int x3, .int x4, .int x5] : List Value).toArray below meth cd H locs 0 0 (MQ below (va_Qv (fun c' => tSm c c' k ∧ tTx ca ad c' k cap (t ++ tBits v mo bt lb)) (mW D n ad) (mA n ad s.heap.size)) ([.ref (ad k), .long v, .int x3, .int x4, .int x5] : List Value).toArray s 0 0 (mA n ad s.heap.size)) (F0 m 16 ls []) := by
    intro q1
    induction q1 with
    | zero => intro e b t1 c1 H locs ls he hq hrm hs1 hT1 heq hP hS hl; omega
    | succ q1 ih =>
      intro e b t1 c1 H locs ls he hq hrm hs1 hT1 heq hP hS hl
      refine lv_iload hx hb dX2_addBits_16 (lv_at hl 0 rfl) ?_
      refine lv_if_lt (tgt := 95) hx hb dX2_addBits_18 (by decide) (fun hc => ?_) (fun hc => ?_)
      · skip
        have he0 : e = 0 := by
          rcases e with _ | e
          · rfl
          · exact absurd hc (nI_pos (by omega))
        exact mx_vret hx hb hr hlocks hP hS (⟨hs1, by have h9 := heq; rw [he0] at h9; unfold tBits; rw [h9]; show tTx ca ad c1 k cap (t1 ++ []); rw [List.append_nil]; exact hT1⟩) dX2_addBits_95
      · skip
        obtain ⟨e1, he1⟩ : ∃ e1, e = e1 + 1 := by
          rcases e with _ | e
          · exact absurd (by decide) hc
          · exact ⟨e, rfl⟩
        have heb : e1 * bt < 64 := by
          rcases hbt with rfl | rfl <;> omega
        have hd16 := bDig_lt v hbt4 e1
        refine lv_lload_n hx hb dX2_addBits_21 rfl (lv_at hl 4 rfl) ?_
        refine lv_iload hx hb dX2_addBits_22 (lv_at hl 0 rfl) ?_
        refine lv_iload hx hb dX2_addBits_24 (lv_at hl 5 rfl) ?_
        refine lv_imul hx hb dX2_addBits_26 ?_
        refine mx_i (nI (e1 * bt)) (by rw [he1, h4]; exact pk_mul e1 bt) ?_
        refine lv_lushr (v := (v.toUInt64 >>> ((nI (e1 * bt) : Int32).toInt64.toUInt64 &&& Int64.toUInt64 63)).toInt64) hx hb dX2_addBits_27 rfl ?_
        refine lv_l2i (v := ((v.toUInt64 >>> ((nI (e1 * bt) : Int32).toInt64.toUInt64 &&& Int64.toUInt64 63)).toInt64).toInt32) hx hb dX2_addBits_28 rfl ?_
        refine lv_iload hx hb dX2_addBits_29 (lv_at hl 2 rfl) ?_
        refine lv_iand hx hb dX2_addBits_31 ?_
        refine mx_i (nI (bDig v bt e1)) (bDig_eq v hbt heb h4 rfl) ?_
        refine lv_istore (lv' := [(9, .int (nI (bDig v bt e1))), (8, .int (tI e)), (7, .int (bI b)), (6, .int ((1 <<< (x4 &&& 31)) - 1)), (0, .ref (ad k)), (1, .long v), (4, .int x4), (5, .int x5)]) hx hb dX2_addBits_32 hl (by decide) rfl (fun ls hl => ?_)
        refine lv_iload hx hb dX2_addBits_34 (lv_at hl 2 rfl) ?_
        refine lv_if_ne (tgt := 49) hx hb dX2_addBits_36 (by decide) (fun hc1 => ?_) (fun hc1 => ?_)
        · skip
          refine lv_iconst (v := 1) hx hb dX2_addBits_49 (by decide) ?_
          refine lv_goto (tgt := 54) hx hb dX2_addBits_50 (by decide) ?_
          refine lv_istore (lv' := [(7, .int 1), (9, .int (nI (bDig v bt e1))), (8, .int (tI e)), (6, .int ((1 <<< (x4 &&& 31)) - 1)), (0, .ref (ad k)), (1, .long v), (4, .int x4), (5, .int x5)]) hx hb dX2_addBits_54 hl (by decide) rfl (fun ls hl => ?_)
          refine lv_iload hx hb dX2_addBits_56 (lv_at hl 0 rfl) ?_
          refine lv_if_eq (tgt := 89) hx hb dX2_addBits_58 (by decide) (fun hc9 => ?_) (fun hc9 => ?_)
          · skip
            exact absurd hc9 (by decide)
          · skip
            refine lv_aload_n hx hb dX2_addBits_61 rfl (lv_at hl 4 rfl) ?_
            refine lv_iload hx hb dX2_addBits_62 (lv_at hl 1 rfl) ?_
            refine lv_bipush (v := 10) hx hb dX2_addBits_64 (by decide) ?_
            refine lv_icmp_ge (tgt := 77) hx hb dX2_addBits_66 (by decide) (fun hc8 => ?_) (fun hc8 => ?_)
            · skip
              have hge : 10 ≤ bDig v bt e1 := (nI_leI (a := 10) (by omega) (by omega)).mp hc8
              refine lv_iload hx hb dX2_addBits_77 (lv_at hl 7 rfl) ?_
              refine lv_iload hx hb dX2_addBits_79 (lv_at hl 1 rfl) ?_
              refine lv_iadd hx hb dX2_addBits_81 ?_
              refine lv_bipush (v := 10) hx hb dX2_addBits_82 (by decide) ?_
              refine lv_isub hx hb dX2_addBits_84 ?_
              refine mx_i (nI (bCh lb (bDig v bt e1))) (by rw [h5]; exact bCh_hi hge) ?_
              refine mx_ci (va_runV (As := [.int (nI (bCh lb (bDig v bt e1)))]) (rest := []) ⟨hx, hb, hml, hown, hts⟩ (c_Text_add l D ca n ad c1 hk hT1 (nI (bCh lb (bDig v bt e1))) _) (cwV 1 hts (gV wm_117 wm_118 wm_119 wm_2 wm_120) rfl rfl rfl (by decide +kernel) ⟨Nat.le_of_ble_eq_true rfl, Nat.le_of_ble_eq_true rfl⟩) (mx_pv (C := RX2) (T := TX2) (N := 2) (ci := 2) hK hP hD hN (by omega : k < n) hT1.cell rfl) rfl rfl hl.1 rfl (lv_room (Nat.le_of_ble_eq_true rfl)) dX2_addBits_85 ⟨Nat.zero_le _, Nat.zero_le _⟩) (Nat.le_refl _) hS (fun r c2 H locs hw hP hS => ?_)
              obtain ⟨-, -, hs2, hT2⟩ := hw.resolve_right (fun h => by have h9 := h.1; omega)
              refine lv_pop hx hb dX2_addBits_88 rfl ?_
              refine lv_iinc (v := tI e1) (lv' := [(8, .int (tI e1)), (7, .int 1), (9, .int (nI (bDig v bt e1))), (6, .int ((1 <<< (x4 &&& 31)) - 1)), (0, .ref (ad k)), (1, .long v), (4, .int x4), (5, .int x5)]) hx hb dX2_addBits_89 hl (k := 2) rfl (by rw [he1]; exact tI_step e1) (by decide) rfl (fun ls hl => ?_)
              refine lv_goto (tgt := 16) hx hb dX2_addBits_92 (by decide) ?_
              exact ih e1 true (t1 ++ [bCh lb (bDig v bt e1)]) c2 H locs ls (by omega) (by omega) (by rw [List.length_append]; simp only [List.length_cons, List.length_nil]; omega) (hs1.tr hs2) (by rw [by8_nI (bCh_lt hd16 hlb.2)] at hT2; exact hT2) (by rw [heq, he1, dgF_t (Or.inl (bI_ne hc1)), List.append_assoc]; rfl) hP hS (lv_sub hl [0, 1, 3, 4, 5, 6, 7] rfl)
            · skip
              have hlt9 : bDig v bt e1 < 10 := by have := (not_congr (nI_leI (a := 10) (by omega) (by omega : bDig v bt e1 < 2 ^ 31))).mp hc8; omega
              refine lv_bipush (v := 48) hx hb dX2_addBits_69 (by decide) ?_
              refine lv_iload hx hb dX2_addBits_71 (lv_at hl 1 rfl) ?_
              refine lv_iadd hx hb dX2_addBits_73 ?_
              refine mx_i (nI (bCh lb (bDig v bt e1))) (bCh_lo hlt9) ?_
              refine lv_goto (tgt := 85) hx hb dX2_addBits_74 (by decide) ?_
              refine mx_ci (va_runV (As := [.int (nI (bCh lb (bDig v bt e1)))]) (rest := []) ⟨hx, hb, hml, hown, hts⟩ (c_Text_add l D ca n ad c1 hk hT1 (nI (bCh lb (bDig v bt e1))) _) (cwV 1 hts (gV wm_117 wm_118 wm_119 wm_2 wm_120) rfl rfl rfl (by decide +kernel) ⟨Nat.le_of_ble_eq_true rfl, Nat.le_of_ble_eq_true rfl⟩) (mx_pv (C := RX2) (T := TX2) (N := 2) (ci := 2) hK hP hD hN (by omega : k < n) hT1.cell rfl) rfl rfl hl.1 rfl (lv_room (Nat.le_of_ble_eq_true rfl)) dX2_addBits_85 ⟨Nat.zero_le _, Nat.zero_le _⟩) (Nat.le_refl _) hS (fun r c2 H locs hw hP hS => ?_)
              obtain ⟨-, -, hs2, hT2⟩ := hw.resolve_right (fun h => by have h9 := h.1; omega)
              refine lv_pop hx hb dX2_addBits_88 rfl ?_
              refine lv_iinc (v := tI e1) (lv' := [(8, .int (tI e1)), (7, .int 1), (9, .int (nI (bDig v bt e1))), (6, .int ((1 <<< (x4 &&& 31)) - 1)), (0, .ref (ad k)), (1, .long v), (4, .int x4), (5, .int x5)]) hx hb dX2_addBits_89 hl (k := 2) rfl (by rw [he1]; exact tI_step e1) (by decide) rfl (fun ls hl => ?_)
              refine lv_goto (tgt := 16) hx hb dX2_addBits_92 (by decide) ?_
              exact ih e1 true (t1 ++ [bCh lb (bDig v bt e1)]) c2 H locs ls (by omega) (by omega) (by rw [List.length_append]; simp only [List.length_cons, List.length_nil]; omega) (hs1.tr hs2) (by rw [by8_nI (bCh_lt hd16 hlb.2)] at hT2; exact hT2) (by rw [heq, he1, dgF_t (Or.inl (bI_ne hc1)), List.append_assoc]; rfl) hP hS (lv_sub hl [0, 1, 3, 4, 5, 6, 7] rfl)
        · skip
          refine lv_iload hx hb dX2_addBits_39 (lv_at hl 0 rfl) ?_
          refine lv_if_ne (tgt := 49) hx hb dX2_addBits_41 (by decide) (fun hc2 => ?_) (fun hc2 => ?_)
          · skip
            refine lv_iconst (v := 1) hx hb dX2_addBits_49 (by decide) ?_
            refine lv_goto (tgt := 54) hx hb dX2_addBits_50 (by decide) ?_
            refine lv_istore (lv' := [(7, .int 1), (9, .int (nI (bDig v bt e1))), (8, .int (tI e)), (6, .int ((1 <<< (x4 &&& 31)) - 1)), (0, .ref (ad k)), (1, .long v), (4, .int x4), (5, .int x5)]) hx hb dX2_addBits_54 hl (by decide) rfl (fun ls hl => ?_)
            refine lv_iload hx hb dX2_addBits_56 (lv_at hl 0 rfl) ?_
            refine lv_if_eq (tgt := 89) hx hb dX2_addBits_58 (by decide) (fun hc9 => ?_) (fun hc9 => ?_)
            · skip
              exact absurd hc9 (by decide)
            · skip
              refine lv_aload_n hx hb dX2_addBits_61 rfl (lv_at hl 4 rfl) ?_
              refine lv_iload hx hb dX2_addBits_62 (lv_at hl 1 rfl) ?_
              refine lv_bipush (v := 10) hx hb dX2_addBits_64 (by decide) ?_
              refine lv_icmp_ge (tgt := 77) hx hb dX2_addBits_66 (by decide) (fun hc8 => ?_) (fun hc8 => ?_)
              · skip
                have hge : 10 ≤ bDig v bt e1 := (nI_leI (a := 10) (by omega) (by omega)).mp hc8
                refine lv_iload hx hb dX2_addBits_77 (lv_at hl 7 rfl) ?_
                refine lv_iload hx hb dX2_addBits_79 (lv_at hl 1 rfl) ?_
                refine lv_iadd hx hb dX2_addBits_81 ?_
                refine lv_bipush (v := 10) hx hb dX2_addBits_82 (by decide) ?_
                refine lv_isub hx hb dX2_addBits_84 ?_
                refine mx_i (nI (bCh lb (bDig v bt e1))) (by rw [h5]; exact bCh_hi hge) ?_
                refine mx_ci (va_runV (As := [.int (nI (bCh lb (bDig v bt e1)))]) (rest := []) ⟨hx, hb, hml, hown, hts⟩ (c_Text_add l D ca n ad c1 hk hT1 (nI (bCh lb (bDig v bt e1))) _) (cwV 1 hts (gV wm_117 wm_118 wm_119 wm_2 wm_120) rfl rfl rfl (by decide +kernel) ⟨Nat.le_of_ble_eq_true rfl, Nat.le_of_ble_eq_true rfl⟩) (mx_pv (C := RX2) (T := TX2) (N := 2) (ci := 2) hK hP hD hN (by omega : k < n) hT1.cell rfl) rfl rfl hl.1 rfl (lv_room (Nat.le_of_ble_eq_true rfl)) dX2_addBits_85 ⟨Nat.zero_le _, Nat.zero_le _⟩) (Nat.le_refl _) hS (fun r c2 H locs hw hP hS => ?_)
                obtain ⟨-, -, hs2, hT2⟩ := hw.resolve_right (fun h => by have h9 := h.1; omega)
                refine lv_pop hx hb dX2_addBits_88 rfl ?_
                refine lv_iinc (v := tI e1) (lv' := [(8, .int (tI e1)), (7, .int 1), (9, .int (nI (bDig v bt e1))), (6, .int ((1 <<< (x4 &&& 31)) - 1)), (0, .ref (ad k)), (1, .long v), (4, .int x4), (5, .int x5)]) hx hb dX2_addBits_89 hl (k := 2) rfl (by rw [he1]; exact tI_step e1) (by decide) rfl (fun ls hl => ?_)
                refine lv_goto (tgt := 16) hx hb dX2_addBits_92 (by decide) ?_
                exact ih e1 true (t1 ++ [bCh lb (bDig v bt e1)]) c2 H locs ls (by omega) (by omega) (by rw [List.length_append]; simp only [List.length_cons, List.length_nil]; omega) (hs1.tr hs2) (by rw [by8_nI (bCh_lt hd16 hlb.2)] at hT2; exact hT2) (by rw [heq, he1, dgF_t (Or.inr (Or.inl (fun h => hc2 (by rw [h]; exact nI_0)))), List.append_assoc]; rfl) hP hS (lv_sub hl [0, 1, 3, 4, 5, 6, 7] rfl)
              · skip
                have hlt9 : bDig v bt e1 < 10 := by have := (not_congr (nI_leI (a := 10) (by omega) (by omega : bDig v bt e1 < 2 ^ 31))).mp hc8; omega
                refine lv_bipush (v := 48) hx hb dX2_addBits_69 (by decide) ?_
                refine lv_iload hx hb dX2_addBits_71 (lv_at hl 1 rfl) ?_
                refine lv_iadd hx hb dX2_addBits_73 ?_
                refine mx_i (nI (bCh lb (bDig v bt e1))) (bCh_lo hlt9) ?_
                refine lv_goto (tgt := 85) hx hb dX2_addBits_74 (by decide) ?_
                refine mx_ci (va_runV (As := [.int (nI (bCh lb (bDig v bt e1)))]) (rest := []) ⟨hx, hb, hml, hown, hts⟩ (c_Text_add l D ca n ad c1 hk hT1 (nI (bCh lb (bDig v bt e1))) _) (cwV 1 hts (gV wm_117 wm_118 wm_119 wm_2 wm_120) rfl rfl rfl (by decide +kernel) ⟨Nat.le_of_ble_eq_true rfl, Nat.le_of_ble_eq_true rfl⟩) (mx_pv (C := RX2) (T := TX2) (N := 2) (ci := 2) hK hP hD hN (by omega : k < n) hT1.cell rfl) rfl rfl hl.1 rfl (lv_room (Nat.le_of_ble_eq_true rfl)) dX2_addBits_85 ⟨Nat.zero_le _, Nat.zero_le _⟩) (Nat.le_refl _) hS (fun r c2 H locs hw hP hS => ?_)
                obtain ⟨-, -, hs2, hT2⟩ := hw.resolve_right (fun h => by have h9 := h.1; omega)
                refine lv_pop hx hb dX2_addBits_88 rfl ?_
                refine lv_iinc (v := tI e1) (lv' := [(8, .int (tI e1)), (7, .int 1), (9, .int (nI (bDig v bt e1))), (6, .int ((1 <<< (x4 &&& 31)) - 1)), (0, .ref (ad k)), (1, .long v), (4, .int x4), (5, .int x5)]) hx hb dX2_addBits_89 hl (k := 2) rfl (by rw [he1]; exact tI_step e1) (by decide) rfl (fun ls hl => ?_)
                refine lv_goto (tgt := 16) hx hb dX2_addBits_92 (by decide) ?_
                exact ih e1 true (t1 ++ [bCh lb (bDig v bt e1)]) c2 H locs ls (by omega) (by omega) (by rw [List.length_append]; simp only [List.length_cons, List.length_nil]; omega) (hs1.tr hs2) (by rw [by8_nI (bCh_lt hd16 hlb.2)] at hT2; exact hT2) (by rw [heq, he1, dgF_t (Or.inr (Or.inl (fun h => hc2 (by rw [h]; exact nI_0)))), List.append_assoc]; rfl) hP hS (lv_sub hl [0, 1, 3, 4, 5, 6, 7] rfl)
          · skip
            have hd0 : bDig v bt e1 = 0 := (nI_eq (by omega) (by omega)).mp (by rw [hc2]; exact nI_0.symm)
            refine lv_iload hx hb dX2_addBits_44 (lv_at hl 1 rfl) ?_
            refine lv_if_ne (tgt := 53) hx hb dX2_addBits_46 (by decide) (fun hc3 => ?_) (fun hc3 => ?_)
            · skip
              refine lv_iconst (v := 0) hx hb dX2_addBits_53 (by decide) ?_
              refine lv_istore (lv' := [(7, .int 0), (9, .int (nI (bDig v bt e1))), (8, .int (tI e)), (6, .int ((1 <<< (x4 &&& 31)) - 1)), (0, .ref (ad k)), (1, .long v), (4, .int x4), (5, .int x5)]) hx hb dX2_addBits_54 hl (by decide) rfl (fun ls hl => ?_)
              refine lv_iload hx hb dX2_addBits_56 (lv_at hl 0 rfl) ?_
              refine lv_if_eq (tgt := 89) hx hb dX2_addBits_58 (by decide) (fun hc9 => ?_) (fun hc9 => ?_)
              · skip
                refine lv_iinc (v := tI e1) (lv' := [(8, .int (tI e1)), (7, .int 0), (9, .int (nI (bDig v bt e1))), (6, .int ((1 <<< (x4 &&& 31)) - 1)), (0, .ref (ad k)), (1, .long v), (4, .int x4), (5, .int x5)]) hx hb dX2_addBits_89 hl (k := 2) rfl (by rw [he1]; exact tI_step e1) (by decide) rfl (fun ls hl => ?_)
                refine lv_goto (tgt := 16) hx hb dX2_addBits_92 (by decide) ?_
                exact ih e1 false t1 c1 H locs ls (by omega) (by omega) (by omega) (hs1) (hT1) (by rw [heq, he1, dgF_f (bI_eq hc1) hd0 (fun h => hc3 (by rw [he1, h]; decide))]) hP hS (lv_sub hl [0, 1, 3, 4, 5, 6, 7] rfl)
              · skip
                exact absurd rfl hc9
            · skip
              refine lv_iconst (v := 1) hx hb dX2_addBits_49 (by decide) ?_
              refine lv_goto (tgt := 54) hx hb dX2_addBits_50 (by decide) ?_
              refine lv_istore (lv' := [(7, .int 1), (9, .int (nI (bDig v bt e1))), (8, .int (tI e)), (6, .int ((1 <<< (x4 &&& 31)) - 1)), (0, .ref (ad k)), (1, .long v), (4, .int x4), (5, .int x5)]) hx hb dX2_addBits_54 hl (by decide) rfl (fun ls hl => ?_)
              refine lv_iload hx hb dX2_addBits_56 (lv_at hl 0 rfl) ?_
              refine lv_if_eq (tgt := 89) hx hb dX2_addBits_58 (by decide) (fun hc9 => ?_) (fun hc9 => ?_)
              · skip
                exact absurd hc9 (by decide)
              · skip
                refine lv_aload_n hx hb dX2_addBits_61 rfl (lv_at hl 4 rfl) ?_
                refine lv_iload hx hb dX2_addBits_62 (lv_at hl 1 rfl) ?_
                refine lv_bipush (v := 10) hx hb dX2_addBits_64 (by decide) ?_
                refine lv_icmp_ge (tgt := 77) hx hb dX2_addBits_66 (by decide) (fun hc8 => ?_) (fun hc8 => ?_)
                · skip
                  have hge : 10 ≤ bDig v bt e1 := (nI_leI (a := 10) (by omega) (by omega)).mp hc8
                  refine lv_iload hx hb dX2_addBits_77 (lv_at hl 7 rfl) ?_
                  refine lv_iload hx hb dX2_addBits_79 (lv_at hl 1 rfl) ?_
                  refine lv_iadd hx hb dX2_addBits_81 ?_
                  refine lv_bipush (v := 10) hx hb dX2_addBits_82 (by decide) ?_
                  refine lv_isub hx hb dX2_addBits_84 ?_
                  refine mx_i (nI (bCh lb (bDig v bt e1))) (by rw [h5]; exact bCh_hi hge) ?_
                  refine mx_ci (va_runV (As := [.int (nI (bCh lb (bDig v bt e1)))]) (rest := []) ⟨hx, hb, hml, hown, hts⟩ (c_Text_add l D ca n ad c1 hk hT1 (nI (bCh lb (bDig v bt e1))) _) (cwV 1 hts (gV wm_117 wm_118 wm_119 wm_2 wm_120) rfl rfl rfl (by decide +kernel) ⟨Nat.le_of_ble_eq_true rfl, Nat.le_of_ble_eq_true rfl⟩) (mx_pv (C := RX2) (T := TX2) (N := 2) (ci := 2) hK hP hD hN (by omega : k < n) hT1.cell rfl) rfl rfl hl.1 rfl (lv_room (Nat.le_of_ble_eq_true rfl)) dX2_addBits_85 ⟨Nat.zero_le _, Nat.zero_le _⟩) (Nat.le_refl _) hS (fun r c2 H locs hw hP hS => ?_)
                  obtain ⟨-, -, hs2, hT2⟩ := hw.resolve_right (fun h => by have h9 := h.1; omega)
                  refine lv_pop hx hb dX2_addBits_88 rfl ?_
                  refine lv_iinc (v := tI e1) (lv' := [(8, .int (tI e1)), (7, .int 1), (9, .int (nI (bDig v bt e1))), (6, .int ((1 <<< (x4 &&& 31)) - 1)), (0, .ref (ad k)), (1, .long v), (4, .int x4), (5, .int x5)]) hx hb dX2_addBits_89 hl (k := 2) rfl (by rw [he1]; exact tI_step e1) (by decide) rfl (fun ls hl => ?_)
                  refine lv_goto (tgt := 16) hx hb dX2_addBits_92 (by decide) ?_
                  exact ih e1 true (t1 ++ [bCh lb (bDig v bt e1)]) c2 H locs ls (by omega) (by omega) (by rw [List.length_append]; simp only [List.length_cons, List.length_nil]; omega) (hs1.tr hs2) (by rw [by8_nI (bCh_lt hd16 hlb.2)] at hT2; exact hT2) (by rw [heq, he1, dgF_t (Or.inr (Or.inr ((nI_eq (by omega) (by omega)).mp (by rw [nI_0]; have h9 := hc3; rw [he1] at h9; exact h9)))), List.append_assoc]; rfl) hP hS (lv_sub hl [0, 1, 3, 4, 5, 6, 7] rfl)
                · skip
                  have hlt9 : bDig v bt e1 < 10 := by have := (not_congr (nI_leI (a := 10) (by omega) (by omega : bDig v bt e1 < 2 ^ 31))).mp hc8; omega
                  refine lv_bipush (v := 48) hx hb dX2_addBits_69 (by decide) ?_
                  refine lv_iload hx hb dX2_addBits_71 (lv_at hl 1 rfl) ?_
                  refine lv_iadd hx hb dX2_addBits_73 ?_
                  refine mx_i (nI (bCh lb (bDig v bt e1))) (bCh_lo hlt9) ?_
                  refine lv_goto (tgt := 85) hx hb dX2_addBits_74 (by decide) ?_
                  refine mx_ci (va_runV (As := [.int (nI (bCh lb (bDig v bt e1)))]) (rest := []) ⟨hx, hb, hml, hown, hts⟩ (c_Text_add l D ca n ad c1 hk hT1 (nI (bCh lb (bDig v bt e1))) _) (cwV 1 hts (gV wm_117 wm_118 wm_119 wm_2 wm_120) rfl rfl rfl (by decide +kernel) ⟨Nat.le_of_ble_eq_true rfl, Nat.le_of_ble_eq_true rfl⟩) (mx_pv (C := RX2) (T := TX2) (N := 2) (ci := 2) hK hP hD hN (by omega : k < n) hT1.cell rfl) rfl rfl hl.1 rfl (lv_room (Nat.le_of_ble_eq_true rfl)) dX2_addBits_85 ⟨Nat.zero_le _, Nat.zero_le _⟩) (Nat.le_refl _) hS (fun r c2 H locs hw hP hS => ?_)
                  obtain ⟨-, -, hs2, hT2⟩ := hw.resolve_right (fun h => by have h9 := h.1; omega)
                  refine lv_pop hx hb dX2_addBits_88 rfl ?_
                  refine lv_iinc (v := tI e1) (lv' := [(8, .int (tI e1)), (7, .int 1), (9, .int (nI (bDig v bt e1))), (6, .int ((1 <<< (x4 &&& 31)) - 1)), (0, .ref (ad k)), (1, .long v), (4, .int x4), (5, .int x5)]) hx hb dX2_addBits_89 hl (k := 2) rfl (by rw [he1]; exact tI_step e1) (by decide) rfl (fun ls hl => ?_)
                  refine lv_goto (tgt := 16) hx hb dX2_addBits_92 (by decide) ?_
                  exact ih e1 true (t1 ++ [bCh lb (bDig v bt e1)]) c2 H locs ls (by omega) (by omega) (by rw [List.length_append]; simp only [List.length_cons, List.length_nil]; omega) (hs1.tr hs2) (by rw [by8_nI (bCh_lt hd16 hlb.2)] at hT2; exact hT2) (by rw [heq, he1, dgF_t (Or.inr (Or.inr ((nI_eq (by omega) (by omega)).mp (by rw [nI_0]; have h9 := hc3; rw [he1] at h9; exact h9)))), List.append_assoc]; rfl) hP hS (lv_sub hl [0, 1, 3, 4, 5, 6, 7] rfl)
  refine lv_iconst (v := 1) hx hb dX2_addBits_0 (by decide) ?_
  refine lv_iload hx hb dX2_addBits_1 (lv_at hl 3 rfl) ?_
  refine lv_ishl hx hb dX2_addBits_3 ?_
  refine lv_iconst (v := 1) hx hb dX2_addBits_4 (by decide) ?_
  refine lv_isub hx hb dX2_addBits_5 ?_
  refine lv_istore (lv' := [(6, .int ((1 <<< (x4 &&& 31)) - 1)), (0, .ref (ad k)), (1, .long v), (3, .int x3), (4, .int x4), (5, .int x5)]) hx hb dX2_addBits_6 hl (by decide) rfl (fun ls hl => ?_)
  refine lv_iconst (v := 0) hx hb dX2_addBits_8 (by decide) ?_
  refine lv_istore (lv' := [(7, .int 0), (6, .int ((1 <<< (x4 &&& 31)) - 1)), (0, .ref (ad k)), (1, .long v), (3, .int x3), (4, .int x4), (5, .int x5)]) hx hb dX2_addBits_9 hl (by decide) rfl (fun ls hl => ?_)
  refine lv_iload_n hx hb dX2_addBits_11 rfl (lv_at hl 4 rfl) ?_
  refine lv_iconst (v := 1) hx hb dX2_addBits_12 (by decide) ?_
  refine lv_isub hx hb dX2_addBits_13 ?_
  refine mx_i (tI mo) (by rw [h3]; exact tI_pred mo) ?_
  refine lv_istore (lv' := [(8, .int (tI mo)), (7, .int 0), (6, .int ((1 <<< (x4 &&& 31)) - 1)), (0, .ref (ad k)), (1, .long v), (3, .int x3), (4, .int x4), (5, .int x5)]) hx hb dX2_addBits_14 hl (by decide) rfl (fun ls hl => ?_)
  exact loop (mo + 1) mo false t c _ _ ls (Nat.le_refl _) (by omega) hroom tSm.rf hT rfl hP hS (by have h9 := (lv_sub hl [0, 1, 2, 3, 4, 6, 7] rfl); exact h9)
end
section
set_option maxHeartbeats 4000000 in
set_option maxRecDepth 100000 in
/-- isDecimalDigit(x) -/
theorem c_isDig (l : Launch) (D : va_G) (ca : Nat → ClassId) (n : Nat) (ad : Nat → Nat) (c : Nat → va_E) (x : Int32) : mInt l yX3_isDecimalDigit wsX3_isDecimalDigit ({ frames := 0, cells := 0, slots := 0, locals := 0 }) [.int x] D (tTY ca) n ad c (fun r c' => c' = c ∧ ((48 ≤ x ∧ x ≤ 57 ∧ r = 1) ∨ (¬ (48 ≤ x ∧ x ≤ 57) ∧ r = 0))) := by
  intro sz
  refine Met.ofW (cc := cX3_isDecimalDigit) (maxL := 1) (ret := (some .boolean)) (by decide) rfl ?_
  intro pg9 ev9 s m args below meth cd s₁ B hml hv
  obtain ⟨rfl, hsz, hP, hK, hD0, hN⟩ := hv
  have hx := B.exec
  have hb := B.bytes
  have hr := B.returns
  have hts := fun (w : Cond) (h : w ∈ WSa) => atoms_spec (ws := wsX3_isDecimalDigit) B.pre w (List.mem_cons_of_mem _ h)
  have hown : s.vm.findClass RX3 = some m.cls := findClass_of_methodNamed B.named
  have hlocks := B.notSynchronized
  subst hsz
  have hD : ∀ c, va_D (fun _ => True) (mw n ad c) := fun c' => mw_D hD0 c'
  have hS : va_S (mA n ad s.heap.size) s.heap s.heap [] := va_S.rf
  have hl := lv_entry ([.int x]) (n := 1) (Nat.le_of_ble_eq_true rfl)
  rw [lg_entry_eq]
  generalize (lg_sl ([.int x]) ++ List.replicate (1 - (lg_sl ([.int x])).length) Slot.unset).toArray = ls at hl ⊢
  have hl : lv_has ls 1 [(0, .int x)] := hl
  refine lv_iload_n hx hb dX3_isDecimalDigit_0 rfl (lv_at hl 0 rfl) ?_
  refine lv_bipush (v := 48) hx hb dX3_isDecimalDigit_1 (by decide) ?_
  refine lv_icmp_lt (tgt := 16) hx hb dX3_isDecimalDigit_3 (by decide) (fun hc => ?_) (fun hc => ?_)
  · skip
    refine lv_iconst (v := 0) hx hb dX3_isDecimalDigit_16 (by decide) ?_
    exact mx_zret hx hb hr hlocks rfl hP hS (⟨rfl, Or.inr ⟨fun h => absurd h.1 (Int32.not_le.mpr hc), rfl⟩⟩) dX3_isDecimalDigit_17
  · skip
    refine lv_iload_n hx hb dX3_isDecimalDigit_6 rfl (lv_at hl 0 rfl) ?_
    refine lv_bipush (v := 57) hx hb dX3_isDecimalDigit_7 (by decide) ?_
    refine lv_icmp_gt (tgt := 16) hx hb dX3_isDecimalDigit_9 (by decide) (fun hc2 => ?_) (fun hc2 => ?_)
    · skip
      refine lv_iconst (v := 0) hx hb dX3_isDecimalDigit_16 (by decide) ?_
      exact mx_zret hx hb hr hlocks rfl hP hS (⟨rfl, Or.inr ⟨fun h => absurd h.2 (Int32.not_le.mpr hc2), rfl⟩⟩) dX3_isDecimalDigit_17
    · skip
      refine lv_iconst (v := 1) hx hb dX3_isDecimalDigit_12 (by decide) ?_
      refine lv_goto (tgt := 17) hx hb dX3_isDecimalDigit_13 (by decide) ?_
      exact mx_zret hx hb hr hlocks rfl hP hS (⟨rfl, Or.inl ⟨Int32.not_lt.mp hc, Int32.not_lt.mp hc2, rfl⟩⟩) dX3_isDecimalDigit_17
set_option maxHeartbeats 4000000 in
set_option maxRecDepth 100000 in
/-- Place.setFlag(x) -/
theorem c_Place_setFlag (l : Launch) (D : va_G) (ca : Nat → ClassId) (n : Nat) (ad : Nat → Nat) (c : Nat → va_E) {k : Nat} {f : fl4} {w kd bh : Int32} (hk : k < n) (hL : tPl c k f w kd bh) (x : Int32) (b : Nat) (hb8 : b < 256) (hxb : x = nI b) : mInt l yX1_setFlag wsX1_setFlag ({ frames := 0, cells := 0, slots := 0, locals := 0 }) [.ref (ad k), .int x] D (tTY ca) n ad c (fun r c' => (∃ f', pFlag b f = some f' ∧ r = 1 ∧ tPl c' k f' w kd bh ∧ ∀ j, j ≠ k → c' j = c j) ∨ (pFlag b f = none ∧ r = 0 ∧ c' = c)) := by
  intro sz
  refine Met.ofW (cc := cX1_setFlag) (maxL := 2) (ret := (some .boolean)) (by decide) rfl ?_
  intro pg9 ev9 s m args below meth cd s₁ B hml hv
  obtain ⟨rfl, hsz, hP, hK, hD0, hN⟩ := hv
  have hx := B.exec
  have hb := B.bytes
  have hr := B.returns
  have hts := fun (w : Cond) (h : w ∈ WSa) => atoms_spec (ws := wsX1_setFlag) B.pre w (List.mem_cons_of_mem _ h)
  have hown : s.vm.findClass RX1 = some m.cls := findClass_of_methodNamed B.named
  have hlocks := B.notSynchronized
  subst hsz
  have hD : ∀ c, va_D (fun _ => True) (mw n ad c) := fun c' => mw_D hD0 c'
  have hS : va_S (mA n ad s.heap.size) s.heap s.heap [] := va_S.rf
  have hl := lv_entry ([.ref (ad k), .int x]) (n := 2) (Nat.le_of_ble_eq_true rfl)
  rw [lg_entry_eq]
  generalize (lg_sl ([.ref (ad k), .int x]) ++ List.replicate (2 - (lg_sl ([.ref (ad k), .int x])).length) Slot.unset).toArray = ls at hl ⊢
  have hl : lv_has ls 2 [(0, .ref (ad k)), (1, .int x)] := hl
  refine lv_iload_n hx hb dX1_setFlag_0 rfl (lv_at hl 1 rfl) ?_
  by_cases h32 : x = 32
  · skip
    have hbk : b = 32 := (nI_eq (by omega) (by omega)).mp (by rw [← hxb, h32]; rfl)
    refine lv_lookup (off := 64) (tgt := 65) hx hb dX1_setFlag_1 (by decide) (by first | (rw [h32]; rfl) | rw [h32]) (by decide) ?_
    refine lv_aload_n hx hb dX1_setFlag_65 rfl (lv_at hl 0 rfl) ?_
    refine lv_iconst (v := 1) hx hb dX1_setFlag_66 (by decide) ?_
    refine mx_i (bI true) (rfl) ?_
    refine mx_put (ci := 1) (v := .int (bI true)) (ty := .boolean) (C := RX1) (T := TX1) (N := 7) hx hb hts inX1 tyX1 tyX1_ok nmX1 hown hK hP hD hS hk hL rfl 3 (by decide) (hts _ wm_44) (fun _ h9 => h9) rfl (by decide +kernel) rfl rfl (Nat.le_of_ble_eq_true rfl) dX1_setFlag_67 (fun H locs hP hS => ?_)
    obtain ⟨c1, ec1⟩ : ∃ z : Nat → va_E, z = va_up c k (.inr (1, [.int (bI f.1), .int (bI f.2.1), .int (bI f.2.2.1), .int (bI true), .int w, .int kd, .int bh])) := ⟨_, rfl⟩
    have hP : va_P D vwCl (mw n ad c1) H := by rw [ec1]; exact hP
    have hsc1 : ∀ j, j ≠ k → c1 j = c j := fun j h => by rw [ec1]; exact va_up_ne _ _ h
    have hcc1 : c1 k = .inr (1, [.int (bI f.1), .int (bI f.2.1), .int (bI f.2.2.1), .int (bI true), .int w, .int kd, .int bh]) := by rw [ec1]; exact va_up_self _ _ _
    refine lv_iconst (v := 1) hx hb dX1_setFlag_70 (by decide) ?_
    exact mx_zret hx hb hr hlocks rfl hP hS (Or.inl ⟨(f.1, f.2.1, f.2.2.1, true), by rw [hbk]; rfl, rfl, hcc1, hsc1⟩) dX1_setFlag_71
  by_cases h43 : x = 43
  · skip
    have hbk : b = 43 := (nI_eq (by omega) (by omega)).mp (by rw [← hxb, h43]; rfl)
    refine lv_lookup (off := 57) (tgt := 58) hx hb dX1_setFlag_1 (by decide) (by first | (rw [h43]; rfl) | rw [h43]) (by decide) ?_
    refine lv_aload_n hx hb dX1_setFlag_58 rfl (lv_at hl 0 rfl) ?_
    refine lv_iconst (v := 1) hx hb dX1_setFlag_59 (by decide) ?_
    refine mx_i (bI true) (rfl) ?_
    refine mx_put (ci := 1) (v := .int (bI true)) (ty := .boolean) (C := RX1) (T := TX1) (N := 7) hx hb hts inX1 tyX1 tyX1_ok nmX1 hown hK hP hD hS hk hL rfl 2 (by decide) (hts _ wm_43) (fun _ h9 => h9) rfl (by decide +kernel) rfl rfl (Nat.le_of_ble_eq_true rfl) dX1_setFlag_60 (fun H locs hP hS => ?_)
    obtain ⟨c1, ec1⟩ : ∃ z : Nat → va_E, z = va_up c k (.inr (1, [.int (bI f.1), .int (bI f.2.1), .int (bI true), .int (bI f.2.2.2), .int w, .int kd, .int bh])) := ⟨_, rfl⟩
    have hP : va_P D vwCl (mw n ad c1) H := by rw [ec1]; exact hP
    have hsc1 : ∀ j, j ≠ k → c1 j = c j := fun j h => by rw [ec1]; exact va_up_ne _ _ h
    have hcc1 : c1 k = .inr (1, [.int (bI f.1), .int (bI f.2.1), .int (bI true), .int (bI f.2.2.2), .int w, .int kd, .int bh]) := by rw [ec1]; exact va_up_self _ _ _
    refine lv_iconst (v := 1) hx hb dX1_setFlag_63 (by decide) ?_
    exact mx_zret hx hb hr hlocks rfl hP hS (Or.inl ⟨(f.1, f.2.1, true, f.2.2.2), by rw [hbk]; rfl, rfl, hcc1, hsc1⟩) dX1_setFlag_64
  by_cases h45 : x = 45
  · skip
    have hbk : b = 45 := (nI_eq (by omega) (by omega)).mp (by rw [← hxb, h45]; rfl)
    refine lv_lookup (off := 43) (tgt := 44) hx hb dX1_setFlag_1 (by decide) (by first | (rw [h45]; rfl) | rw [h45]) (by decide) ?_
    refine lv_aload_n hx hb dX1_setFlag_44 rfl (lv_at hl 0 rfl) ?_
    refine lv_iconst (v := 1) hx hb dX1_setFlag_45 (by decide) ?_
    refine mx_i (bI true) (rfl) ?_
    refine mx_put (ci := 1) (v := .int (bI true)) (ty := .boolean) (C := RX1) (T := TX1) (N := 7) hx hb hts inX1 tyX1 tyX1_ok nmX1 hown hK hP hD hS hk hL rfl 0 (by decide) (hts _ wm_39) (fun _ h9 => h9) rfl (by decide +kernel) rfl rfl (Nat.le_of_ble_eq_true rfl) dX1_setFlag_46 (fun H locs hP hS => ?_)
    obtain ⟨c1, ec1⟩ : ∃ z : Nat → va_E, z = va_up c k (.inr (1, [.int (bI true), .int (bI f.2.1), .int (bI f.2.2.1), .int (bI f.2.2.2), .int w, .int kd, .int bh])) := ⟨_, rfl⟩
    have hP : va_P D vwCl (mw n ad c1) H := by rw [ec1]; exact hP
    have hsc1 : ∀ j, j ≠ k → c1 j = c j := fun j h => by rw [ec1]; exact va_up_ne _ _ h
    have hcc1 : c1 k = .inr (1, [.int (bI true), .int (bI f.2.1), .int (bI f.2.2.1), .int (bI f.2.2.2), .int w, .int kd, .int bh]) := by rw [ec1]; exact va_up_self _ _ _
    refine lv_iconst (v := 1) hx hb dX1_setFlag_49 (by decide) ?_
    exact mx_zret hx hb hr hlocks rfl hP hS (Or.inl ⟨(true, f.2.1, f.2.2.1, f.2.2.2), by rw [hbk]; rfl, rfl, hcc1, hsc1⟩) dX1_setFlag_50
  by_cases h48 : x = 48
  · skip
    have hbk : b = 48 := (nI_eq (by omega) (by omega)).mp (by rw [← hxb, h48]; rfl)
    refine lv_lookup (off := 50) (tgt := 51) hx hb dX1_setFlag_1 (by decide) (by first | (rw [h48]; rfl) | rw [h48]) (by decide) ?_
    refine lv_aload_n hx hb dX1_setFlag_51 rfl (lv_at hl 0 rfl) ?_
    refine lv_iconst (v := 1) hx hb dX1_setFlag_52 (by decide) ?_
    refine mx_i (bI true) (rfl) ?_
    refine mx_put (ci := 1) (v := .int (bI true)) (ty := .boolean) (C := RX1) (T := TX1) (N := 7) hx hb hts inX1 tyX1 tyX1_ok nmX1 hown hK hP hD hS hk hL rfl 1 (by decide) (hts _ wm_41) (fun _ h9 => h9) rfl (by decide +kernel) rfl rfl (Nat.le_of_ble_eq_true rfl) dX1_setFlag_53 (fun H locs hP hS => ?_)
    obtain ⟨c1, ec1⟩ : ∃ z : Nat → va_E, z = va_up c k (.inr (1, [.int (bI f.1), .int (bI true), .int (bI f.2.2.1), .int (bI f.2.2.2), .int w, .int kd, .int bh])) := ⟨_, rfl⟩
    have hP : va_P D vwCl (mw n ad c1) H := by rw [ec1]; exact hP
    have hsc1 : ∀ j, j ≠ k → c1 j = c j := fun j h => by rw [ec1]; exact va_up_ne _ _ h
    have hcc1 : c1 k = .inr (1, [.int (bI f.1), .int (bI true), .int (bI f.2.2.1), .int (bI f.2.2.2), .int w, .int kd, .int bh]) := by rw [ec1]; exact va_up_self _ _ _
    refine lv_iconst (v := 1) hx hb dX1_setFlag_56 (by decide) ?_
    exact mx_zret hx hb hr hlocks rfl hP hS (Or.inl ⟨(f.1, true, f.2.2.1, f.2.2.2), by rw [hbk]; rfl, rfl, hcc1, hsc1⟩) dX1_setFlag_57
  refine lv_lookup (off := 71) (tgt := 72) hx hb dX1_setFlag_1 (by decide) ((lv_osw h32 (by decide)).trans ((lv_osw h43 (by decide)).trans ((lv_osw h45 (by decide)).trans ((lv_osw h48 (by decide)).trans (rfl))))) (by decide) ?_
  refine lv_iconst (v := 0) hx hb dX1_setFlag_72 (by decide) ?_
  exact mx_zret hx hb hr hlocks rfl hP hS (Or.inr ⟨by unfold pFlag; rw [if_neg (fun h => h45 (by rw [hxb, h]; rfl)), if_neg (fun h => h48 (by rw [hxb, h]; rfl)), if_neg (fun h => h43 (by rw [hxb, h]; rfl)), if_neg (fun h => h32 (by rw [hxb, h]; rfl))], rfl, rfl⟩) dX1_setFlag_73
set_option maxHeartbeats 4000000 in
set_option maxRecDepth 100000 in
/-- Place.isKind(x) -/
theorem c_isKind (l : Launch) (D : va_G) (ca : Nat → ClassId) (n : Nat) (ad : Nat → Nat) (c : Nat → va_E) (x : Int32) : mInt l yX1_isKind wsX1_isKind ({ frames := 0, cells := 0, slots := 0, locals := 0 }) [.int x] D (tTY ca) n ad c (fun r c' => c' = c ∧ (((x = 37 ∨ x = 88 ∨ x = 99 ∨ x = 100 ∨ x = 111 ∨ x = 115 ∨ x = 120) ∧ r = 1) ∨ (¬ (x = 37 ∨ x = 88 ∨ x = 99 ∨ x = 100 ∨ x = 111 ∨ x = 115 ∨ x = 120) ∧ r = 0))) := by
  intro sz
  refine Met.ofW (cc := cX1_isKind) (maxL := 1) (ret := (some .boolean)) (by decide) rfl ?_
  intro pg9 ev9 s m args below meth cd s₁ B hml hv
  obtain ⟨rfl, hsz, hP, hK, hD0, hN⟩ := hv
  have hx := B.exec
  have hb := B.bytes
  have hr := B.returns
  have hts := fun (w : Cond) (h : w ∈ WSa) => atoms_spec (ws := wsX1_isKind) B.pre w (List.mem_cons_of_mem _ h)
  have hown : s.vm.findClass RX1 = some m.cls := findClass_of_methodNamed B.named
  have hlocks := B.notSynchronized
  subst hsz
  have hD : ∀ c, va_D (fun _ => True) (mw n ad c) := fun c' => mw_D hD0 c'
  have hS : va_S (mA n ad s.heap.size) s.heap s.heap [] := va_S.rf
  have hl := lv_entry ([.int x]) (n := 1) (Nat.le_of_ble_eq_true rfl)
  rw [lg_entry_eq]
  generalize (lg_sl ([.int x]) ++ List.replicate (1 - (lg_sl ([.int x])).length) Slot.unset).toArray = ls at hl ⊢
  have hl : lv_has ls 1 [(0, .int x)] := hl
  refine lv_iload_n hx hb dX1_isKind_0 rfl (lv_at hl 0 rfl) ?_
  by_cases h37 : x = 37
  · skip
    refine lv_lookup (off := 67) (tgt := 68) hx hb dX1_isKind_1 (by decide) (by first | (rw [h37]; rfl) | rw [h37]) (by decide) ?_
    refine lv_iconst (v := 1) hx hb dX1_isKind_68 (by decide) ?_
    exact mx_zret hx hb hr hlocks rfl hP hS (⟨rfl, Or.inl ⟨by simp [h37], rfl⟩⟩) dX1_isKind_69
  by_cases h88 : x = 88
  · skip
    refine lv_lookup (off := 67) (tgt := 68) hx hb dX1_isKind_1 (by decide) (by first | (rw [h88]; rfl) | rw [h88]) (by decide) ?_
    refine lv_iconst (v := 1) hx hb dX1_isKind_68 (by decide) ?_
    exact mx_zret hx hb hr hlocks rfl hP hS (⟨rfl, Or.inl ⟨by simp [h88], rfl⟩⟩) dX1_isKind_69
  by_cases h99 : x = 99
  · skip
    refine lv_lookup (off := 67) (tgt := 68) hx hb dX1_isKind_1 (by decide) (by first | (rw [h99]; rfl) | rw [h99]) (by decide) ?_
    refine lv_iconst (v := 1) hx hb dX1_isKind_68 (by decide) ?_
    exact mx_zret hx hb hr hlocks rfl hP hS (⟨rfl, Or.inl ⟨by simp [h99], rfl⟩⟩) dX1_isKind_69
  by_cases h100 : x = 100
  · skip
    refine lv_lookup (off := 67) (tgt := 68) hx hb dX1_isKind_1 (by decide) (by first | (rw [h100]; rfl) | rw [h100]) (by decide) ?_
    refine lv_iconst (v := 1) hx hb dX1_isKind_68 (by decide) ?_
    exact mx_zret hx hb hr hlocks rfl hP hS (⟨rfl, Or.inl ⟨by simp [h100], rfl⟩⟩) dX1_isKind_69
  by_cases h111 : x = 111
  · skip
    refine lv_lookup (off := 67) (tgt := 68) hx hb dX1_isKind_1 (by decide) (by first | (rw [h111]; rfl) | rw [h111]) (by decide) ?_
    refine lv_iconst (v := 1) hx hb dX1_isKind_68 (by decide) ?_
    exact mx_zret hx hb hr hlocks rfl hP hS (⟨rfl, Or.inl ⟨by simp [h111], rfl⟩⟩) dX1_isKind_69
  by_cases h115 : x = 115
  · skip
    refine lv_lookup (off := 67) (tgt := 68) hx hb dX1_isKind_1 (by decide) (by first | (rw [h115]; rfl) | rw [h115]) (by decide) ?_
    refine lv_iconst (v := 1) hx hb dX1_isKind_68 (by decide) ?_
    exact mx_zret hx hb hr hlocks rfl hP hS (⟨rfl, Or.inl ⟨by simp [h115], rfl⟩⟩) dX1_isKind_69
  by_cases h120 : x = 120
  · skip
    refine lv_lookup (off := 67) (tgt := 68) hx hb dX1_isKind_1 (by decide) (by first | (rw [h120]; rfl) | rw [h120]) (by decide) ?_
    refine lv_iconst (v := 1) hx hb dX1_isKind_68 (by decide) ?_
    exact mx_zret hx hb hr hlocks rfl hP hS (⟨rfl, Or.inl ⟨by simp [h120], rfl⟩⟩) dX1_isKind_69
  refine lv_lookup (off := 69) (tgt := 70) hx hb dX1_isKind_1 (by decide) ((lv_osw h37 (by decide)).trans ((lv_osw h88 (by decide)).trans ((lv_osw h99 (by decide)).trans ((lv_osw h100 (by decide)).trans ((lv_osw h111 (by decide)).trans ((lv_osw h115 (by decide)).trans ((lv_osw h120 (by decide)).trans (rfl)))))))) (by decide) ?_
  refine lv_iconst (v := 0) hx hb dX1_isKind_70 (by decide) ?_
  exact mx_zret hx hb hr hlocks rfl hP hS (⟨rfl, Or.inr ⟨by simp [h37, h88, h99, h100, h111, h115, h120], rfl⟩⟩) dX1_isKind_71
set_option maxHeartbeats 4000000 in
set_option maxRecDepth 100000 in
/-- Place.signOf(v) -/
theorem c_Place_signOf (l : Launch) (D : va_G) (ca : Nat → ClassId) (n : Nat) (ad : Nat → Nat) (c : Nat → va_E) {k : Nat} {f : fl4} {w kd bh : Int32} (hk : k < n) (hL : tPl c k f w kd bh) (v : Int64) : mInt l yX1_signOf wsX1_signOf ({ frames := 0, cells := 0, slots := 0, locals := 0 }) [.ref (ad k), .long v] D (tTY ca) n ad c (fun r c' => c' = c ∧ r = (if v < 0 then 45 else if f.2.2.1 = true then 43 else if f.2.2.2 = true then 32 else 0)) := by
  intro sz
  refine Met.ofW (cc := cX1_signOf) (maxL := 3) (ret := (some .int)) (by decide) rfl ?_
  intro pg9 ev9 s m args below meth cd s₁ B hml hv
  obtain ⟨rfl, hsz, hP, hK, hD0, hN⟩ := hv
  have hx := B.exec
  have hb := B.bytes
  have hr := B.returns
  have hts := fun (w : Cond) (h : w ∈ WSa) => atoms_spec (ws := wsX1_signOf) B.pre w (List.mem_cons_of_mem _ h)
  have hown : s.vm.findClass RX1 = some m.cls := findClass_of_methodNamed B.named
  have hlocks := B.notSynchronized
  subst hsz
  have hD : ∀ c, va_D (fun _ => True) (mw n ad c) := fun c' => mw_D hD0 c'
  have hS : va_S (mA n ad s.heap.size) s.heap s.heap [] := va_S.rf
  have hl := lv_entry ([.ref (ad k), .long v]) (n := 3) (Nat.le_of_ble_eq_true rfl)
  rw [lg_entry_eq]
  generalize (lg_sl ([.ref (ad k), .long v]) ++ List.replicate (3 - (lg_sl ([.ref (ad k), .long v])).length) Slot.unset).toArray = ls at hl ⊢
  have hl : lv_has ls 3 [(0, .ref (ad k)), (1, .long v)] := hl
  refine lv_lload_n hx hb dX1_signOf_0 rfl (lv_at hl 1 rfl) ?_
  refine lv_lconst (v := 0) hx hb dX1_signOf_1 (by decide) ?_
  refine W.lcmp hx hb dX1_signOf_2 ?_
  refine lv_if_ge (tgt := 9) hx hb dX1_signOf_3 (by decide) (fun hc => ?_) (fun hc => ?_)
  · skip
    have hv : ¬ v < 0 := Int64.not_lt.mpr ((lg_cmp_ge _ _).mp hc)
    refine lv_aload_n hx hb dX1_signOf_9 rfl (lv_at hl 0 rfl) ?_
    refine mx_get (ci := 1) (v := .int (bI f.2.2.1)) (C := RX1) (T := TX1) (N := 7) hx hb hts inX1 hown hK hP hk hL rfl 2 (by decide) (hts _ wm_43) (fun _ h9 => h9) rfl dX1_signOf_10 ?_
    refine lv_if_eq (tgt := 19) hx hb dX1_signOf_13 (by decide) (fun hc2 => ?_) (fun hc2 => ?_)
    · skip
      refine lv_aload_n hx hb dX1_signOf_19 rfl (lv_at hl 0 rfl) ?_
      refine mx_get (ci := 1) (v := .int (bI f.2.2.2)) (C := RX1) (T := TX1) (N := 7) hx hb hts inX1 hown hK hP hk hL rfl 3 (by decide) (hts _ wm_44) (fun _ h9 => h9) rfl dX1_signOf_20 ?_
      refine lv_if_eq (tgt := 31) hx hb dX1_signOf_23 (by decide) (fun hc3 => ?_) (fun hc3 => ?_)
      · skip
        refine lv_iconst (v := 0) hx hb dX1_signOf_31 (by decide) ?_
        exact mx_iret hx hb hr hlocks hP hS (⟨rfl, by rw [if_neg hv, if_neg (by rw [bI_eq hc2]; decide), if_neg (by rw [bI_eq hc3]; decide)]⟩) dX1_signOf_32
      · skip
        refine lv_bipush (v := 32) hx hb dX1_signOf_26 (by decide) ?_
        refine lv_goto (tgt := 32) hx hb dX1_signOf_28 (by decide) ?_
        exact mx_iret hx hb hr hlocks hP hS (⟨rfl, by rw [if_neg hv, if_neg (by rw [bI_eq hc2]; decide), if_pos (bI_ne hc3)]⟩) dX1_signOf_32
    · skip
      refine lv_bipush (v := 43) hx hb dX1_signOf_16 (by decide) ?_
      exact mx_iret hx hb hr hlocks hP hS (⟨rfl, by rw [if_neg hv, if_pos (bI_ne hc2)]⟩) dX1_signOf_18
  · skip
    refine lv_bipush (v := 45) hx hb dX1_signOf_6 (by decide) ?_
    exact mx_iret hx hb hr hlocks hP hS (⟨rfl, by rw [if_pos (Int64.not_le.mp (fun h => hc ((lg_cmp_ge _ _).mpr h)))]⟩) dX1_signOf_8
set_option maxHeartbeats 4000000 in
set_option maxRecDepth 100000 in
/-- Place.readFlags -/
theorem c_Place_readFlags (l : Launch) (D : va_G) (ca : Nat → ClassId) (n : Nat) (ad : Nat → Nat) (c : Nat → va_E) {k : Nat} {f : fl4} {w kd bh : Int32} (hk : k < n) (hL : tPl c k f w kd bh) {k2 cap : Nat} {t : List Nat} (hk2 : k2 + 1 < n) (hT : tTx ca ad c k2 cap t) (hd : k2 ≠ k ∧ k2 + 1 ≠ k) (x : Int32) (i0 : Nat) (hx0 : x = nI i0) (hi0 : i0 ≤ t.length) : mInt l yX1_readFlags wsX1_readFlags ({ frames := 1, cells := 0, slots := 0, locals := 21 }) [.ref (ad k), .ref (ad k2), .int x] D (tTY ca) n ad c (fun r c' => ∃ i, i ≤ t.length ∧ r = nI i ∧ t.drop i = (pFlags (t.drop i0) (false, false, false, false)).2 ∧ tPl c' k (pFlags (t.drop i0) (false, false, false, false)).1 w kd bh ∧ ∀ j, j ≠ k → c' j = c j) := by
  intro sz
  refine Met.ofW (cc := cX1_readFlags) (maxL := 4) (ret := (some .int)) (by decide) rfl ?_
  intro pg9 ev9 s m args below meth cd s₁ B hml hv
  obtain ⟨rfl, hsz, hP, hK, hD0, hN⟩ := hv
  have hx := B.exec
  have hb := B.bytes
  have hr := B.returns
  have hts := fun (w : Cond) (h : w ∈ WSa) => atoms_spec (ws := wsX1_readFlags) B.pre w (List.mem_cons_of_mem _ h)
  have hown : s.vm.findClass RX1 = some m.cls := findClass_of_methodNamed B.named
  have hlocks := B.notSynchronized
  subst hsz
  have hD : ∀ c, va_D (fun _ => True) (mw n ad c) := fun c' => mw_D hD0 c'
  have hS : va_S (mA n ad s.heap.size) s.heap s.heap [] := va_S.rf
  have hl := lv_entry ([.ref (ad k), .ref (ad k2), .int x]) (n := 4) (Nat.le_of_ble_eq_true rfl)
  rw [lg_entry_eq]
  generalize (lg_sl ([.ref (ad k), .ref (ad k2), .int x]) ++ List.replicate (4 - (lg_sl ([.ref (ad k), .ref (ad k2), .int x])).length) Slot.unset).toArray = ls at hl ⊢
  have hl : lv_has ls 4 [(0, .ref (ad k)), (1, .ref (ad k2)), (2, .int x)] := hl
  have hcp := hT.cap
  have hle := hT.le
  have loop : ∀ (q1 : Nat) (i : Nat) (f1 : fl4) (c1 : Nat → va_E) (H : Heap) (locs : List Loc) (ls : Array Slot), (i ≤ t.length) → (t.length < i + q1) → (pFlags (t.drop i0) (false, false, false, false) = pFlags (t.drop i) f1) → (tPl c1 k f1 w kd bh) → (∀ j, j ≠ k → c1 j = c j) → va_P D vwCl (mw n ad c1) H → va_S (mA n ad s.heap.size) s.heap H locs → lv_has ls 4 [(3, .int (nI i)), (0, .ref (ad k)), (1, .ref (ad k2)), (2, .int x)] → W pg9 l ev9 (headSpec wsX1_readFlags ({ frames := 1, cells := 0, slots := 0, locals := 21 })).room s m ([.ref (ad k), .ref (ad k2), .int x] : List Value).toArray below meth cd H locs 0 0 (MQ below (va_Qi (fun r c' => ∃ i, i ≤ t.length ∧ r = nI i ∧ t.drop i = (pFlags (t.drop i0) (false, false, false, false)).2 ∧ tPl c' k (pFlags (t.drop i0) (false, false, false, false)).1 w kd bh ∧ ∀ j, j ≠ k → c' j = c j) (mW D n ad) (mA n ad s.heap.size)) ([.ref (ad k), .ref (ad k2), .int x] : List Value).toArray s 0 0 (mA n ad s.heap.size)) (F0 m 22 ls []) := by
    intro q1
    induction q1 with
    | zero => intro i f1 c1 H locs ls hi hq heq hL1 hs1 hP hS hl; omega
    | succ q1 ih =>
      intro i f1 c1 H locs ls hi hq heq hL1 hs1 hP hS hl
      have hT1 : tTx ca ad c1 k2 cap t := hT.keep (hs1 _ hd.1) (hs1 _ hd.2)
      refine lv_iload_n hx hb dX1_readFlags_22 rfl (lv_at hl 0 rfl) ?_
      refine lv_aload_n hx hb dX1_readFlags_23 rfl (lv_at hl 2 rfl) ?_
      refine mx_getN (ci := 2) (v := .int (nI t.length)) (C := RX2) (T := TX2) (N := 2) hx hb hts inX2 hown hK hP (by omega : k2 < n) hT1.cell rfl 1 (by decide) (hN.1 _ nn_1) (fun _ h9 => h9) rfl dX1_readFlags_24 ?_
      refine lv_icmp_ge (tgt := 48) hx hb dX1_readFlags_27 (by decide) (fun hc => ?_) (fun hc => ?_)
      · skip
        have hge : t.length ≤ i := (nI_leI (by omega) (by omega)).mp hc
        refine lv_iload_n hx hb dX1_readFlags_48 rfl (lv_at hl 0 rfl) ?_
        exact mx_iret hx hb hr hlocks hP hS (⟨i, hi, rfl, by rw [heq, dr_nil hge]; rfl, by rw [heq, dr_nil hge]; exact hL1, hs1⟩) dX1_readFlags_49
      · skip
        have hlt : i < t.length := by rcases Nat.lt_or_ge i t.length with h | h; exact h; exact absurd (nI_le h (by omega)) hc
        refine lv_aload_n hx hb dX1_readFlags_30 rfl (lv_at hl 1 rfl) ?_
        refine lv_aload_n hx hb dX1_readFlags_31 rfl (lv_at hl 2 rfl) ?_
        refine lv_iload_n hx hb dX1_readFlags_32 rfl (lv_at hl 0 rfl) ?_
        refine mx_ci (va_runV (As := [.int (nI i)]) (rest := [.ref (ad k)]) ⟨hx, hb, hml, hown, hts⟩ (c_Text_at l D ca n ad c1 hk2 hT1 (nI i) _) (cwV 1 hts (gV wm_188 wm_142 wm_143 wm_2 wm_144) rfl rfl rfl (by decide +kernel) ⟨Nat.le_of_ble_eq_true rfl, Nat.le_of_ble_eq_true rfl⟩) (mx_pv (C := RX2) (T := TX2) (N := 2) (ci := 2) hK hP hD hN (by omega : k2 < n) hT1.cell rfl) rfl rfl hl.1 rfl (lv_room (Nat.le_of_ble_eq_true rfl)) dX1_readFlags_33 ⟨Nat.zero_le _, Nat.zero_le _⟩) (Nat.le_refl _) hS (fun r1 c2 H locs hw hP hS => ?_)
        obtain ⟨hr1, hcE⟩ := hw
        rw [hcE] at hP
        refine mx_i (nI (t.getD i 0)) (by rw [hr1, tAtI_nI (by omega)]; exact if_pos hlt) ?_
        refine mx_ci (va_runV (As := [.int (nI (t.getD i 0))]) (rest := []) ⟨hx, hb, hml, hown, hts⟩ (c_Place_setFlag l D ca n ad c1 hk hL1 (nI (t.getD i 0)) (t.getD i 0) (hT.b8 _ (gD_mem hlt)) rfl _) (cwV 1 hts (gV wm_189 wm_191 ws_3 wm_3 wm_192) rfl rfl rfl (by decide +kernel) ⟨Nat.le_of_ble_eq_true rfl, Nat.le_of_ble_eq_true rfl⟩) (mx_pv (C := RX1) (T := TX1) (N := 7) (ci := 1) hK hP hD hN hk hL1 rfl) rfl rfl hl.1 rfl (lv_room (Nat.le_of_ble_eq_true rfl)) dX1_readFlags_36 ⟨Nat.zero_le _, Nat.zero_le _⟩) (Nat.le_refl _) hS (fun r2 c2 H locs hw hP hS => ?_)
        refine lv_if_eq (tgt := 48) hx hb dX1_readFlags_39 (by decide) (fun hc2 => ?_) (fun hc2 => ?_)
        · skip
          obtain ⟨hn, -, hcE⟩ := hw.resolve_left (fun h => by obtain ⟨f9, h1, h2, -⟩ := h; rw [h2] at hc2; exact absurd hc2 (by decide))
          rw [hcE] at hP
          refine lv_iload_n hx hb dX1_readFlags_48 rfl (lv_at hl 0 rfl) ?_
          exact mx_iret hx hb hr hlocks hP hS (⟨i, hi, rfl, by rw [heq, dr_cons hlt]; show _ = (match pFlag _ _ with | some f' => pFlags _ f' | none => (f1, _) : fl4 × List Nat).2; rw [hn], by rw [heq, dr_cons hlt]; show tPl _ k (match pFlag _ _ with | some f' => pFlags _ f' | none => (f1, _) : fl4 × List Nat).1 w kd bh; rw [hn]; exact hL1, hs1⟩) dX1_readFlags_49
        · skip
          obtain ⟨f2, hf2, -, hL2, hs2⟩ := hw.resolve_right (fun h => hc2 h.2.1)
          refine lv_iinc (v := nI (i + 1)) (lv' := [(3, .int (nI (i + 1))), (0, .ref (ad k)), (1, .ref (ad k2)), (2, .int x)]) hx hb dX1_readFlags_42 hl (k := 0) rfl (nI_1 i) (by decide) rfl (fun ls hl => ?_)
          refine lv_goto (tgt := 22) hx hb dX1_readFlags_45 (by decide) ?_
          exact ih (i + 1) f2 c2 H locs ls (by omega) (by omega) (by rw [heq, dr_cons hlt]; show (match pFlag _ _ with | some f' => pFlags _ f' | none => (f1, _) : fl4 × List Nat) = _; rw [hf2]) hL2 (fun j h => (hs2 j h).trans (hs1 j h)) hP hS (lv_sub hl [0, 1, 2, 3] rfl)
  refine lv_aload_n hx hb dX1_readFlags_0 rfl (lv_at hl 0 rfl) ?_
  refine lv_iconst (v := 0) hx hb dX1_readFlags_1 (by decide) ?_
  refine mx_i (bI false) (rfl) ?_
  refine mx_put (ci := 1) (v := .int (bI false)) (ty := .boolean) (C := RX1) (T := TX1) (N := 7) hx hb hts inX1 tyX1 tyX1_ok nmX1 hown hK hP hD hS hk hL rfl 0 (by decide) (hts _ wm_39) (fun _ h9 => h9) rfl (by decide +kernel) rfl rfl (Nat.le_of_ble_eq_true rfl) dX1_readFlags_2 (fun H locs hP hS => ?_)
  obtain ⟨a1, ea1⟩ : ∃ z : Nat → va_E, z = va_up c k (.inr (1, [.int (bI false), .int (bI f.2.1), .int (bI f.2.2.1), .int (bI f.2.2.2), .int w, .int kd, .int bh])) := ⟨_, rfl⟩
  have hP : va_P D vwCl (mw n ad a1) H := by rw [ea1]; exact hP
  have hsa1 : ∀ j, j ≠ k → a1 j = c j := fun j h => by rw [ea1]; exact va_up_ne _ _ h
  have hca1 : a1 k = .inr (1, [.int (bI false), .int (bI f.2.1), .int (bI f.2.2.1), .int (bI f.2.2.2), .int w, .int kd, .int bh]) := by rw [ea1]; exact va_up_self _ _ _
  refine lv_aload_n hx hb dX1_readFlags_5 rfl (lv_at hl 0 rfl) ?_
  refine lv_iconst (v := 0) hx hb dX1_readFlags_6 (by decide) ?_
  refine mx_i (bI false) (rfl) ?_
  refine mx_put (ci := 1) (v := .int (bI false)) (ty := .boolean) (C := RX1) (T := TX1) (N := 7) hx hb hts inX1 tyX1 tyX1_ok nmX1 hown hK hP hD hS hk hca1 rfl 1 (by decide) (hts _ wm_41) (fun _ h9 => h9) rfl (by decide +kernel) rfl rfl (Nat.le_of_ble_eq_true rfl) dX1_readFlags_7 (fun H locs hP hS => ?_)
  obtain ⟨a2, ea2⟩ : ∃ z : Nat → va_E, z = va_up a1 k (.inr (1, [.int (bI false), .int (bI false), .int (bI f.2.2.1), .int (bI f.2.2.2), .int w, .int kd, .int bh])) := ⟨_, rfl⟩
  have hP : va_P D vwCl (mw n ad a2) H := by rw [ea2]; exact hP
  have hsa2 : ∀ j, j ≠ k → a2 j = a1 j := fun j h => by rw [ea2]; exact va_up_ne _ _ h
  have hca2 : a2 k = .inr (1, [.int (bI false), .int (bI false), .int (bI f.2.2.1), .int (bI f.2.2.2), .int w, .int kd, .int bh]) := by rw [ea2]; exact va_up_self _ _ _
  refine lv_aload_n hx hb dX1_readFlags_10 rfl (lv_at hl 0 rfl) ?_
  refine lv_iconst (v := 0) hx hb dX1_readFlags_11 (by decide) ?_
  refine mx_i (bI false) (rfl) ?_
  refine mx_put (ci := 1) (v := .int (bI false)) (ty := .boolean) (C := RX1) (T := TX1) (N := 7) hx hb hts inX1 tyX1 tyX1_ok nmX1 hown hK hP hD hS hk hca2 rfl 2 (by decide) (hts _ wm_43) (fun _ h9 => h9) rfl (by decide +kernel) rfl rfl (Nat.le_of_ble_eq_true rfl) dX1_readFlags_12 (fun H locs hP hS => ?_)
  obtain ⟨a3, ea3⟩ : ∃ z : Nat → va_E, z = va_up a2 k (.inr (1, [.int (bI false), .int (bI false), .int (bI false), .int (bI f.2.2.2), .int w, .int kd, .int bh])) := ⟨_, rfl⟩
  have hP : va_P D vwCl (mw n ad a3) H := by rw [ea3]; exact hP
  have hsa3 : ∀ j, j ≠ k → a3 j = a2 j := fun j h => by rw [ea3]; exact va_up_ne _ _ h
  have hca3 : a3 k = .inr (1, [.int (bI false), .int (bI false), .int (bI false), .int (bI f.2.2.2), .int w, .int kd, .int bh]) := by rw [ea3]; exact va_up_self _ _ _
  refine lv_aload_n hx hb dX1_readFlags_15 rfl (lv_at hl 0 rfl) ?_
  refine lv_iconst (v := 0) hx hb dX1_readFlags_16 (by decide) ?_
  refine mx_i (bI false) (rfl) ?_
  refine mx_put (ci := 1) (v := .int (bI false)) (ty := .boolean) (C := RX1) (T := TX1) (N := 7) hx hb hts inX1 tyX1 tyX1_ok nmX1 hown hK hP hD hS hk hca3 rfl 3 (by decide) (hts _ wm_44) (fun _ h9 => h9) rfl (by decide +kernel) rfl rfl (Nat.le_of_ble_eq_true rfl) dX1_readFlags_17 (fun H locs hP hS => ?_)
  obtain ⟨a4, ea4⟩ : ∃ z : Nat → va_E, z = va_up a3 k (.inr (1, [.int (bI false), .int (bI false), .int (bI false), .int (bI false), .int w, .int kd, .int bh])) := ⟨_, rfl⟩
  have hP : va_P D vwCl (mw n ad a4) H := by rw [ea4]; exact hP
  have hsa4 : ∀ j, j ≠ k → a4 j = a3 j := fun j h => by rw [ea4]; exact va_up_ne _ _ h
  have hca4 : a4 k = .inr (1, [.int (bI false), .int (bI false), .int (bI false), .int (bI false), .int w, .int kd, .int bh]) := by rw [ea4]; exact va_up_self _ _ _
  refine lv_iload_n hx hb dX1_readFlags_20 rfl (lv_at hl 2 rfl) ?_
  refine lv_istore_n (lv' := [(3, .int x), (0, .ref (ad k)), (1, .ref (ad k2)), (2, .int x)]) hx hb dX1_readFlags_21 rfl hl (by decide) rfl (fun ls hl => ?_)
  exact loop (t.length + 1 - i0 + 1) i0 (false, false, false, false) a4 _ _ ls hi0 (by omega) rfl hca4 (fun j h => (hsa4 j h).trans ((hsa3 j h).trans ((hsa2 j h).trans (hsa1 j h)))) hP hS (by have h9 := (lv_sub hl [0, 1, 2, 3] rfl); rw [← hx0]; exact h9)
set_option maxHeartbeats 4000000 in
set_option maxRecDepth 100000 in
/-- Place.readWidth -/
theorem c_Place_readWidth (l : Launch) (D : va_G) (ca : Nat → ClassId) (n : Nat) (ad : Nat → Nat) (c : Nat → va_E) {k : Nat} {f : fl4} {w kd bh : Int32} (hk : k < n) (hL : tPl c k f w kd bh) {k2 cap : Nat} {t : List Nat} (hk2 : k2 + 1 < n) (hT : tTx ca ad c k2 cap t) (hd : k2 ≠ k ∧ k2 + 1 ≠ k) (x : Int32) (i0 : Nat) (hx0 : x = nI i0) (hi0 : i0 ≤ t.length) : mInt l yX1_readWidth wsX1_readWidth ({ frames := 1, cells := 0, slots := 0, locals := 21 }) [.ref (ad k), .ref (ad k2), .int x] D (tTY ca) n ad c (fun r c' => ∃ i, i ≤ t.length ∧ r = nI i ∧ t.drop i = (pWid (t.drop i0) 0).2 ∧ tPl c' k f (nI (pWid (t.drop i0) 0).1) kd bh ∧ ∀ j, j ≠ k → c' j = c j) := by
  intro sz
  refine Met.ofW (cc := cX1_readWidth) (maxL := 4) (ret := (some .int)) (by decide) rfl ?_
  intro pg9 ev9 s m args below meth cd s₁ B hml hv
  obtain ⟨rfl, hsz, hP, hK, hD0, hN⟩ := hv
  have hx := B.exec
  have hb := B.bytes
  have hr := B.returns
  have hts := fun (w : Cond) (h : w ∈ WSa) => atoms_spec (ws := wsX1_readWidth) B.pre w (List.mem_cons_of_mem _ h)
  have hown : s.vm.findClass RX1 = some m.cls := findClass_of_methodNamed B.named
  have hlocks := B.notSynchronized
  subst hsz
  have hD : ∀ c, va_D (fun _ => True) (mw n ad c) := fun c' => mw_D hD0 c'
  have hS : va_S (mA n ad s.heap.size) s.heap s.heap [] := va_S.rf
  have hl := lv_entry ([.ref (ad k), .ref (ad k2), .int x]) (n := 4) (Nat.le_of_ble_eq_true rfl)
  rw [lg_entry_eq]
  generalize (lg_sl ([.ref (ad k), .ref (ad k2), .int x]) ++ List.replicate (4 - (lg_sl ([.ref (ad k), .ref (ad k2), .int x])).length) Slot.unset).toArray = ls at hl ⊢
  have hl : lv_has ls 4 [(0, .ref (ad k)), (1, .ref (ad k2)), (2, .int x)] := hl
  have hcp := hT.cap
  have hle := hT.le
  have loop : ∀ (q1 : Nat) (i : Nat) (w1 : Nat) (c1 : Nat → va_E) (H : Heap) (locs : List Loc) (ls : Array Slot), (i ≤ t.length) → (t.length < i + q1) → (w1 ≤ 100000) → (pWid (t.drop i0) 0 = pWid (t.drop i) w1) → (tPl c1 k f (nI w1) kd bh) → (∀ j, j ≠ k → c1 j = c j) → va_P D vwCl (mw n ad c1) H → va_S (mA n ad s.heap.size) s.heap H locs → lv_has ls 4 [(3, .int (nI i)), (0, .ref (ad k)), (1, .ref (ad k2)), (2, .int x)] → W pg9 l ev9 (headSpec wsX1_readWidth ({ frames := 1, cells := 0, slots := 0, locals := 21 })).room s m ([.ref (ad k), .ref (ad k2), .int x] : List Value).toArray below meth cd H locs 0 0 (MQ below (va_Qi (fun r c' => ∃ i, i ≤ t.length ∧ r = nI i ∧ t.drop i = (pWid (t.drop i0) 0).2 ∧ tPl c' k f (nI (pWid (t.drop i0) 0).1) kd bh ∧ ∀ j, j ≠ k → c' j = c j) (mW D n ad) (mA n ad s.heap.size)) ([.ref (ad k), .ref (ad k2), .int x] : List Value).toArray s 0 0 (mA n ad s.heap.size)) (F0 m 7 ls []) := by
    intro q1
    induction q1 with
    | zero => intro i w1 c1 H locs ls hi hq hw1 heq hL1 hs1 hP hS hl; omega
    | succ q1 ih =>
      intro i w1 c1 H locs ls hi hq hw1 heq hL1 hs1 hP hS hl
      have hT1 : tTx ca ad c1 k2 cap t := hT.keep (hs1 _ hd.1) (hs1 _ hd.2)
      refine lv_iload_n hx hb dX1_readWidth_7 rfl (lv_at hl 0 rfl) ?_
      refine lv_aload_n hx hb dX1_readWidth_8 rfl (lv_at hl 2 rfl) ?_
      refine mx_getN (ci := 2) (v := .int (nI t.length)) (C := RX2) (T := TX2) (N := 2) hx hb hts inX2 hown hK hP (by omega : k2 < n) hT1.cell rfl 1 (by decide) (hN.1 _ nn_1) (fun _ h9 => h9) rfl dX1_readWidth_9 ?_
      refine lv_icmp_ge (tgt := 57) hx hb dX1_readWidth_12 (by decide) (fun hc => ?_) (fun hc => ?_)
      · skip
        have hge : t.length ≤ i := (nI_leI (by omega) (by omega)).mp hc
        refine lv_iload_n hx hb dX1_readWidth_57 rfl (lv_at hl 0 rfl) ?_
        exact mx_iret hx hb hr hlocks hP hS (⟨i, hi, rfl, by rw [heq, dr_nil hge]; rfl, by rw [heq, dr_nil hge]; exact hL1, hs1⟩) dX1_readWidth_58
      · skip
        have hlt : i < t.length := by rcases Nat.lt_or_ge i t.length with h | h; exact h; exact absurd (nI_le h (by omega)) hc
        have hb8 : t.getD i 0 < 256 := hT.b8 _ (gD_mem hlt)
        refine lv_aload_n hx hb dX1_readWidth_15 rfl (lv_at hl 2 rfl) ?_
        refine lv_iload_n hx hb dX1_readWidth_16 rfl (lv_at hl 0 rfl) ?_
        refine mx_ci (va_runV (As := [.int (nI i)]) (rest := []) ⟨hx, hb, hml, hown, hts⟩ (c_Text_at l D ca n ad c1 hk2 hT1 (nI i) _) (cwV 1 hts (gV wm_188 wm_142 wm_143 wm_2 wm_144) rfl rfl rfl (by decide +kernel) ⟨Nat.le_of_ble_eq_true rfl, Nat.le_of_ble_eq_true rfl⟩) (mx_pv (C := RX2) (T := TX2) (N := 2) (ci := 2) hK hP hD hN (by omega : k2 < n) hT1.cell rfl) rfl rfl hl.1 rfl (lv_room (Nat.le_of_ble_eq_true rfl)) dX1_readWidth_17 ⟨Nat.zero_le _, Nat.zero_le _⟩) (Nat.le_refl _) hS (fun r1 c2 H locs hw hP hS => ?_)
        obtain ⟨hr1, hcE⟩ := hw
        rw [hcE] at hP
        refine mx_i (nI (t.getD i 0)) (by rw [hr1, tAtI_nI (by omega)]; exact if_pos hlt) ?_
        refine mx_ci (va_runSN (As := [.int (nI (t.getD i 0))]) (rest := []) ⟨hx, hb, hml, hown, hts⟩ (c_isDig l D ca n ad c1 (nI (t.getD i 0)) _) ⟨va_cnB 1 hts (gW wm_199) rfl rfl rfl (hN.1 _ nn_9) (hts _ wm_1) (by decide +kernel) ⟨Nat.le_of_ble_eq_true rfl, Nat.le_of_ble_eq_true rfl⟩, hts _ wm_198, trivial⟩ (mx_ps hK hP hD hN) rfl rfl hl.1 rfl (lv_room (Nat.le_of_ble_eq_true rfl)) dX1_readWidth_20 ⟨Nat.zero_le _, Nat.zero_le _⟩) (Nat.le_refl _) hS (fun r2 c2 H locs hw hP hS => ?_)
        obtain ⟨hcE, hw⟩ := hw
        rw [hcE] at hP
        refine lv_if_eq (tgt := 57) hx hb dX1_readWidth_23 (by decide) (fun hc2 => ?_) (fun hc2 => ?_)
        · skip
          have hnd : isDg (t.getD i 0) = false := by rcases hw with h | h; exact absurd (h.2.2.symm.trans hc2) (by decide); exact isDg_f hb8 h.1
          refine lv_iload_n hx hb dX1_readWidth_57 rfl (lv_at hl 0 rfl) ?_
          exact mx_iret hx hb hr hlocks hP hS (⟨i, hi, rfl, by rw [heq, dr_cons hlt]; unfold pWid; rw [if_neg (by rw [hnd]; decide)], by rw [heq, dr_cons hlt]; unfold pWid; rw [if_neg (by rw [hnd]; decide)]; exact hL1, hs1⟩) dX1_readWidth_58
        · skip
          have hdg : isDg (t.getD i 0) = true := by rcases hw with h | h; exact isDg_t hb8 h.1 h.2.1; exact absurd h.2 hc2
          obtain ⟨hd1, hd2⟩ := isDg_le hdg
          refine lv_aload_n hx hb dX1_readWidth_26 rfl (lv_at hl 1 rfl) ?_
          refine lv_ldc (v := 100000) hx hb hown (hts _ wm_200) dX1_readWidth_27 ?_
          refine lv_aload_n hx hb dX1_readWidth_29 rfl (lv_at hl 1 rfl) ?_
          refine mx_get (ci := 1) (v := .int (nI w1)) (C := RX1) (T := TX1) (N := 7) hx hb hts inX1 hown hK hP hk hL1 rfl 4 (by decide) (hts _ wm_45) (fun _ h9 => h9) rfl dX1_readWidth_30 ?_
          refine lv_bipush (v := 10) hx hb dX1_readWidth_33 (by decide) ?_
          refine lv_imul hx hb dX1_readWidth_35 ?_
          refine lv_aload_n hx hb dX1_readWidth_36 rfl (lv_at hl 2 rfl) ?_
          refine lv_iload_n hx hb dX1_readWidth_37 rfl (lv_at hl 0 rfl) ?_
          refine mx_ci (va_runV (As := [.int (nI i)]) (rest := [.int ((nI w1) * 10), .int 100000, .ref (ad k)]) ⟨hx, hb, hml, hown, hts⟩ (c_Text_at l D ca n ad c1 hk2 hT1 (nI i) _) (cwV 1 hts (gV wm_188 wm_142 wm_143 wm_2 wm_144) rfl rfl rfl (by decide +kernel) ⟨Nat.le_of_ble_eq_true rfl, Nat.le_of_ble_eq_true rfl⟩) (mx_pv (C := RX2) (T := TX2) (N := 2) (ci := 2) hK hP hD hN (by omega : k2 < n) hT1.cell rfl) rfl rfl hl.1 rfl (lv_room (Nat.le_of_ble_eq_true rfl)) dX1_readWidth_38 ⟨Nat.zero_le _, Nat.zero_le _⟩) (Nat.le_refl _) hS (fun r3 c2 H locs hw2 hP hS => ?_)
          obtain ⟨hr3, hcE⟩ := hw2
          rw [hcE] at hP
          refine mx_i (nI (t.getD i 0)) (by rw [hr3, tAtI_nI (by omega)]; exact if_pos hlt) ?_
          refine lv_iadd hx hb dX1_readWidth_41 ?_
          refine lv_bipush (v := 48) hx hb dX1_readWidth_42 (by decide) ?_
          refine lv_isub hx hb dX1_readWidth_44 ?_
          refine mx_i (nI (w1 * 10 + (t.getD i 0 - 48))) (wd_eq hd1) ?_
          refine va_mmin hx hb (by rw [hml]; exact hl.1.symm) hown (hts _ wm_201) (hts _ wm_202) (hts _ wm_6) (hts _ wm_203) (Nat.le_of_ble_eq_true rfl) (Nat.le_of_ble_eq_true rfl) (Nat.zero_le _) (Nat.zero_le _) dX1_readWidth_45 ?_
          refine mx_i (nI (min 100000 (w1 * 10 + (t.getD i 0 - 48)))) (wd_min (by omega)) ?_
          refine mx_put (ci := 1) (v := .int (nI (min 100000 (w1 * 10 + (t.getD i 0 - 48))))) (ty := .int) (C := RX1) (T := TX1) (N := 7) hx hb hts inX1 tyX1 tyX1_ok nmX1 hown hK hP hD hS hk hL1 rfl 4 (by decide) (hts _ wm_45) (fun _ h9 => h9) rfl (by decide +kernel) rfl rfl (Nat.le_of_ble_eq_true rfl) dX1_readWidth_48 (fun H locs hP hS => ?_)
          obtain ⟨c2, ec2⟩ : ∃ z : Nat → va_E, z = va_up c1 k (.inr (1, [.int (bI f.1), .int (bI f.2.1), .int (bI f.2.2.1), .int (bI f.2.2.2), .int (nI (min 100000 (w1 * 10 + (t.getD i 0 - 48)))), .int kd, .int bh])) := ⟨_, rfl⟩
          have hP : va_P D vwCl (mw n ad c2) H := by rw [ec2]; exact hP
          have hsc2 : ∀ j, j ≠ k → c2 j = c1 j := fun j h => by rw [ec2]; exact va_up_ne _ _ h
          have hcc2 : c2 k = .inr (1, [.int (bI f.1), .int (bI f.2.1), .int (bI f.2.2.1), .int (bI f.2.2.2), .int (nI (min 100000 (w1 * 10 + (t.getD i 0 - 48)))), .int kd, .int bh]) := by rw [ec2]; exact va_up_self _ _ _
          refine lv_iinc (v := nI (i + 1)) (lv' := [(3, .int (nI (i + 1))), (0, .ref (ad k)), (1, .ref (ad k2)), (2, .int x)]) hx hb dX1_readWidth_51 hl (k := 0) rfl (nI_1 i) (by decide) rfl (fun ls hl => ?_)
          refine lv_goto (tgt := 7) hx hb dX1_readWidth_54 (by decide) ?_
          exact ih (i + 1) (min 100000 (w1 * 10 + (t.getD i 0 - 48))) c2 H locs ls (by omega) (by omega) (Nat.min_le_left _ _) (by rw [heq, dr_cons hlt]; show (if _ then _ else _) = _; rw [if_pos hdg]) hcc2 (fun j h => (hsc2 j h).trans (hs1 j h)) hP hS (lv_sub hl [0, 1, 2, 3] rfl)
  refine lv_aload_n hx hb dX1_readWidth_0 rfl (lv_at hl 0 rfl) ?_
  refine lv_iconst (v := 0) hx hb dX1_readWidth_1 (by decide) ?_
  refine mx_i (nI 0) (nI_0.symm) ?_
  refine mx_put (ci := 1) (v := .int (nI 0)) (ty := .int) (C := RX1) (T := TX1) (N := 7) hx hb hts inX1 tyX1 tyX1_ok nmX1 hown hK hP hD hS hk hL rfl 4 (by decide) (hts _ wm_45) (fun _ h9 => h9) rfl (by decide +kernel) rfl rfl (Nat.le_of_ble_eq_true rfl) dX1_readWidth_2 (fun H locs hP hS => ?_)
  obtain ⟨a1, ea1⟩ : ∃ z : Nat → va_E, z = va_up c k (.inr (1, [.int (bI f.1), .int (bI f.2.1), .int (bI f.2.2.1), .int (bI f.2.2.2), .int (nI 0), .int kd, .int bh])) := ⟨_, rfl⟩
  have hP : va_P D vwCl (mw n ad a1) H := by rw [ea1]; exact hP
  have hsa1 : ∀ j, j ≠ k → a1 j = c j := fun j h => by rw [ea1]; exact va_up_ne _ _ h
  have hca1 : a1 k = .inr (1, [.int (bI f.1), .int (bI f.2.1), .int (bI f.2.2.1), .int (bI f.2.2.2), .int (nI 0), .int kd, .int bh]) := by rw [ea1]; exact va_up_self _ _ _
  refine lv_iload_n hx hb dX1_readWidth_5 rfl (lv_at hl 2 rfl) ?_
  refine lv_istore_n (lv' := [(3, .int x), (0, .ref (ad k)), (1, .ref (ad k2)), (2, .int x)]) hx hb dX1_readWidth_6 rfl hl (by decide) rfl (fun ls hl => ?_)
  exact loop (t.length + 1 - i0 + 1) i0 0 a1 _ _ ls hi0 (by omega) (by omega) rfl hca1 hsa1 hP hS (by have h9 := (lv_sub hl [0, 1, 2, 3] rfl); rw [← hx0]; exact h9)
set_option maxHeartbeats 4000000 in
set_option maxRecDepth 100000 in
/-- Place.read -/
theorem c_Place_read (l : Launch) (D : va_G) (ca : Nat → ClassId) (n : Nat) (ad : Nat → Nat) (c : Nat → va_E) {k : Nat} {f : fl4} {w kd bh : Int32} (hk : k < n) (hL : tPl c k f w kd bh) {k2 cap : Nat} {t : List Nat} (hk2 : k2 + 1 < n) (hT : tTx ca ad c k2 cap t) (hd : k2 ≠ k ∧ k2 + 1 ≠ k) (x : Int32) (i0 : Nat) (hx0 : x = nI i0) (hi0 : i0 ≤ t.length) : mInt l yX1_read wsX1_read ({ frames := 2, cells := 0, slots := 0, locals := 44 }) [.ref (ad k), .ref (ad k2), .int x] D (tTY ca) n ad c (fun r c' => ∃ i, i ≤ t.length ∧ t.drop i = (pPlace (t.drop i0)).2.2 ∧ tPl c' k (pPlace (t.drop i0)).1 (nI (pPlace (t.drop i0)).2.1) (tAt t i) (nI (i + 1)) ∧ (∀ j, j ≠ k → c' j = c j) ∧ ((i < t.length ∧ isKd (t.getD i 0) = true ∧ r = 1) ∨ (¬ (i < t.length ∧ isKd (t.getD i 0) = true) ∧ r = 0))) := by
  intro sz
  refine Met.ofW (cc := cX1_read) (maxL := 5) (ret := (some .boolean)) (by decide) rfl ?_
  intro pg9 ev9 s m args below meth cd s₁ B hml hv
  obtain ⟨rfl, hsz, hP, hK, hD0, hN⟩ := hv
  have hx := B.exec
  have hb := B.bytes
  have hr := B.returns
  have hts := fun (w : Cond) (h : w ∈ WSa) => atoms_spec (ws := wsX1_read) B.pre w (List.mem_cons_of_mem _ h)
  have hown : s.vm.findClass RX1 = some m.cls := findClass_of_methodNamed B.named
  have hlocks := B.notSynchronized
  subst hsz
  have hD : ∀ c, va_D (fun _ => True) (mw n ad c) := fun c' => mw_D hD0 c'
  have hS : va_S (mA n ad s.heap.size) s.heap s.heap [] := va_S.rf
  have hl := lv_entry ([.ref (ad k), .ref (ad k2), .int x]) (n := 5) (Nat.le_of_ble_eq_true rfl)
  rw [lg_entry_eq]
  generalize (lg_sl ([.ref (ad k), .ref (ad k2), .int x]) ++ List.replicate (5 - (lg_sl ([.ref (ad k), .ref (ad k2), .int x])).length) Slot.unset).toArray = ls at hl ⊢
  have hl : lv_has ls 5 [(0, .ref (ad k)), (1, .ref (ad k2)), (2, .int x)] := hl
  have hcp := hT.cap
  have hle := hT.le
  refine lv_aload_n hx hb dX1_read_0 rfl (lv_at hl 0 rfl) ?_
  refine lv_aload_n hx hb dX1_read_1 rfl (lv_at hl 1 rfl) ?_
  refine lv_iload_n hx hb dX1_read_2 rfl (lv_at hl 2 rfl) ?_
  refine mx_ci (va_runV (As := [.ref (ad k2), .int x]) (rest := []) ⟨hx, hb, hml, hown, hts⟩ (c_Place_readFlags l D ca n ad c hk hL hk2 hT hd x i0 hx0 hi0 _) (cwV 2 hts (gV wm_184 wm_186 ws_2 wm_3 wm_187) rfl rfl rfl (by decide +kernel) ⟨Nat.le_of_ble_eq_true rfl, Nat.le_of_ble_eq_true rfl⟩) (mx_pv (C := RX1) (T := TX1) (N := 7) (ci := 1) hK hP hD hN hk hL rfl) rfl rfl hl.1 rfl (lv_room (Nat.le_of_ble_eq_true rfl)) dX1_read_3 ⟨Nat.zero_le _, Nat.zero_le _⟩) (Nat.le_refl _) hS (fun r1 c1 H locs hw hP hS => ?_)
  obtain ⟨i1, hi1, hr1, hd1, hL1, hs1⟩ := hw
  have hT1 : tTx ca ad c1 k2 cap t := hT.keep (hs1 _ hd.1) (hs1 _ hd.2)
  refine lv_istore_n (lv' := [(3, .int r1), (0, .ref (ad k)), (1, .ref (ad k2)), (2, .int x)]) hx hb dX1_read_6 rfl hl (by decide) rfl (fun ls hl => ?_)
  refine lv_aload_n hx hb dX1_read_7 rfl (lv_at hl 1 rfl) ?_
  refine lv_aload_n hx hb dX1_read_8 rfl (lv_at hl 2 rfl) ?_
  refine lv_iload_n hx hb dX1_read_9 rfl (lv_at hl 0 rfl) ?_
  refine mx_ci (va_runV (As := [.ref (ad k2), .int r1]) (rest := []) ⟨hx, hb, hml, hown, hts⟩ (c_Place_readWidth l D ca n ad c1 hk hL1 hk2 hT1 hd r1 i1 hr1 hi1 _) (cwV 2 hts (gV wm_193 wm_195 ws_4 wm_3 wm_196) rfl rfl rfl (by decide +kernel) ⟨Nat.le_of_ble_eq_true rfl, Nat.le_of_ble_eq_true rfl⟩) (mx_pv (C := RX1) (T := TX1) (N := 7) (ci := 1) hK hP hD hN hk hL1 rfl) rfl rfl hl.1 rfl (lv_room (Nat.le_of_ble_eq_true rfl)) dX1_read_10 ⟨Nat.zero_le _, Nat.zero_le _⟩) (Nat.le_refl _) hS (fun r2 c2 H locs hw hP hS => ?_)
  obtain ⟨i2, hi2, hr2, hd2, hL2, hs2⟩ := hw
  have hT2 : tTx ca ad c2 k2 cap t := hT1.keep (hs2 _ hd.1) (hs2 _ hd.2)
  refine lv_istore (lv' := [(4, .int r2), (3, .int r1), (0, .ref (ad k)), (1, .ref (ad k2)), (2, .int x)]) hx hb dX1_read_13 hl (by decide) rfl (fun ls hl => ?_)
  refine lv_aload_n hx hb dX1_read_15 rfl (lv_at hl 2 rfl) ?_
  refine lv_aload_n hx hb dX1_read_16 rfl (lv_at hl 3 rfl) ?_
  refine lv_iload hx hb dX1_read_17 (lv_at hl 0 rfl) ?_
  refine mx_ci (va_runV (As := [.int r2]) (rest := [.ref (ad k)]) ⟨hx, hb, hml, hown, hts⟩ (c_Text_at l D ca n ad c2 hk2 hT2 r2 _) (cwV 1 hts (gV wm_188 wm_142 wm_143 wm_2 wm_144) rfl rfl rfl (by decide +kernel) ⟨Nat.le_of_ble_eq_true rfl, Nat.le_of_ble_eq_true rfl⟩) (mx_pv (C := RX2) (T := TX2) (N := 2) (ci := 2) hK hP hD hN (by omega : k2 < n) hT2.cell rfl) rfl rfl hl.1 rfl (lv_room (Nat.le_of_ble_eq_true rfl)) dX1_read_19 ⟨Nat.zero_le _, Nat.zero_le _⟩) (Nat.le_refl _) hS (fun r3 c3 H locs hw hP hS => ?_)
  obtain ⟨hr3, hcE⟩ := hw
  rw [hcE] at hP
  refine mx_i (tAt t i2) (by rw [hr3, hr2, tAtI_nI (by omega)]) ?_
  refine mx_put (ci := 1) (v := .int (tAt t i2)) (ty := .int) (C := RX1) (T := TX1) (N := 7) hx hb hts inX1 tyX1 tyX1_ok nmX1 hown hK hP hD hS hk hL2 rfl 5 (by decide) (hts _ wm_47) (fun _ h9 => h9) rfl (by decide +kernel) rfl rfl (Nat.le_of_ble_eq_true rfl) dX1_read_22 (fun H locs hP hS => ?_)
  obtain ⟨c3, ec3⟩ : ∃ z : Nat → va_E, z = va_up c2 k (.inr (1, [.int (bI ((pFlags (t.drop i0) (false, false, false, false)).1).1), .int (bI ((pFlags (t.drop i0) (false, false, false, false)).1).2.1), .int (bI ((pFlags (t.drop i0) (false, false, false, false)).1).2.2.1), .int (bI ((pFlags (t.drop i0) (false, false, false, false)).1).2.2.2), .int (nI (pWid (t.drop i1) 0).1), .int (tAt t i2), .int bh])) := ⟨_, rfl⟩
  have hP : va_P D vwCl (mw n ad c3) H := by rw [ec3]; exact hP
  have hsc3 : ∀ j, j ≠ k → c3 j = c2 j := fun j h => by rw [ec3]; exact va_up_ne _ _ h
  have hcc3 : c3 k = .inr (1, [.int (bI ((pFlags (t.drop i0) (false, false, false, false)).1).1), .int (bI ((pFlags (t.drop i0) (false, false, false, false)).1).2.1), .int (bI ((pFlags (t.drop i0) (false, false, false, false)).1).2.2.1), .int (bI ((pFlags (t.drop i0) (false, false, false, false)).1).2.2.2), .int (nI (pWid (t.drop i1) 0).1), .int (tAt t i2), .int bh]) := by rw [ec3]; exact va_up_self _ _ _
  refine lv_aload_n hx hb dX1_read_25 rfl (lv_at hl 2 rfl) ?_
  refine lv_iload hx hb dX1_read_26 (lv_at hl 0 rfl) ?_
  refine lv_iconst (v := 1) hx hb dX1_read_28 (by decide) ?_
  refine lv_iadd hx hb dX1_read_29 ?_
  refine mx_i (nI (i2 + 1)) (by rw [hr2]; exact nI_1 i2) ?_
  refine mx_put (ci := 1) (v := .int (nI (i2 + 1))) (ty := .int) (C := RX1) (T := TX1) (N := 7) hx hb hts inX1 tyX1 tyX1_ok nmX1 hown hK hP hD hS hk hcc3 rfl 6 (by decide) (hts _ wm_49) (fun _ h9 => h9) rfl (by decide +kernel) rfl rfl (Nat.le_of_ble_eq_true rfl) dX1_read_30 (fun H locs hP hS => ?_)
  obtain ⟨c4, ec4⟩ : ∃ z : Nat → va_E, z = va_up c3 k (.inr (1, [.int (bI ((pFlags (t.drop i0) (false, false, false, false)).1).1), .int (bI ((pFlags (t.drop i0) (false, false, false, false)).1).2.1), .int (bI ((pFlags (t.drop i0) (false, false, false, false)).1).2.2.1), .int (bI ((pFlags (t.drop i0) (false, false, false, false)).1).2.2.2), .int (nI (pWid (t.drop i1) 0).1), .int (tAt t i2), .int (nI (i2 + 1))])) := ⟨_, rfl⟩
  have hP : va_P D vwCl (mw n ad c4) H := by rw [ec4]; exact hP
  have hsc4 : ∀ j, j ≠ k → c4 j = c3 j := fun j h => by rw [ec4]; exact va_up_ne _ _ h
  have hcc4 : c4 k = .inr (1, [.int (bI ((pFlags (t.drop i0) (false, false, false, false)).1).1), .int (bI ((pFlags (t.drop i0) (false, false, false, false)).1).2.1), .int (bI ((pFlags (t.drop i0) (false, false, false, false)).1).2.2.1), .int (bI ((pFlags (t.drop i0) (false, false, false, false)).1).2.2.2), .int (nI (pWid (t.drop i1) 0).1), .int (tAt t i2), .int (nI (i2 + 1))]) := by rw [ec4]; exact va_up_self _ _ _
  refine lv_aload_n hx hb dX1_read_33 rfl (lv_at hl 2 rfl) ?_
  refine mx_get (ci := 1) (v := .int (tAt t i2)) (C := RX1) (T := TX1) (N := 7) hx hb hts inX1 hown hK hP hk hcc4 rfl 5 (by decide) (hts _ wm_47) (fun _ h9 => h9) rfl dX1_read_34 ?_
  refine mx_ci (va_runS (As := [.int (tAt t i2)]) (rest := []) ⟨hx, hb, hml, hown, hts⟩ (c_isKind l D ca n ad c4 (tAt t i2) _) (cwS 1 hts (gS wm_204 wm_205 wm_3 wm_206) rfl rfl rfl (by decide +kernel) ⟨Nat.le_of_ble_eq_true rfl, Nat.le_of_ble_eq_true rfl⟩) (mx_ps hK hP hD hN) rfl rfl hl.1 rfl (lv_room (Nat.le_of_ble_eq_true rfl)) dX1_read_37 ⟨Nat.zero_le _, Nat.zero_le _⟩) (Nat.le_refl _) hS (fun r4 c5 H locs hw hP hS => ?_)
  obtain ⟨hcE, hw⟩ := hw
  rw [hcE] at hP
  have hp1 : (pPlace (t.drop i0)).1 = (pFlags (t.drop i0) (false, false, false, false)).1 := rfl
  have hp2 : (pPlace (t.drop i0)).2 = pWid (t.drop i1) 0 := by rw [hd1]; rfl
  have hq : ∃ i, i ≤ t.length ∧ t.drop i = (pPlace (t.drop i0)).2.2 ∧ tPl c4 k (pPlace (t.drop i0)).1 (nI (pPlace (t.drop i0)).2.1) (tAt t i) (nI (i + 1)) ∧ (∀ j, j ≠ k → c4 j = c j) ∧ ((i < t.length ∧ isKd (t.getD i 0) = true ∧ r4 = 1) ∨ (¬ (i < t.length ∧ isKd (t.getD i 0) = true) ∧ r4 = 0)) := by
    refine ⟨i2, hi2, by rw [hp2]; exact hd2, by rw [hp2]; exact hcc4, fun j h => (hsc4 j h).trans ((hsc3 j h).trans ((hs2 j h).trans (hs1 j h))), ?_⟩
    exact kd_cases (fun y hy => hT.b8 y hy) hw
  obtain rfl | rfl : r4 = 1 ∨ r4 = 0 := by rcases hw with h | h; exact Or.inl h.2; exact Or.inr h.2
  · skip
    exact mx_zret hx hb hr hlocks rfl hP hS (hq) dX1_read_40
  · skip
    exact mx_zret hx hb hr hlocks rfl hP hS (hq) dX1_read_40
end
section
set_option maxHeartbeats 4000000 in
set_option maxRecDepth 100000 in
/-- Numeral.hexadecimalDigit(x) -/
theorem c_hexDig (l : Launch) (D : va_G) (ca : Nat → ClassId) (n : Nat) (ad : Nat → Nat) (c : Nat → va_E) (x : Int32) (b : Nat) (hb8 : b < 256) (hxb : x = nI b) : mInt l yX0_hexadecimalDigit wsX0_hexadecimalDigit ({ frames := 1, cells := 0, slots := 0, locals := 20 }) [.int x] D (tTY ca) n ad c (fun r c' => c' = c ∧ r = hxI b) := by
  intro sz
  refine Met.ofW (cc := cX0_hexadecimalDigit) (maxL := 1) (ret := (some .int)) (by decide) rfl ?_
  intro pg9 ev9 s m args below meth cd s₁ B hml hv
  obtain ⟨rfl, hsz, hP, hK, hD0, hN⟩ := hv
  have hx := B.exec
  have hb := B.bytes
  have hr := B.returns
  have hts := fun (w : Cond) (h : w ∈ WSa) => atoms_spec (ws := wsX0_hexadecimalDigit) B.pre w (List.mem_cons_of_mem _ h)
  have hown : s.vm.findClass RX0 = some m.cls := findClass_of_methodNamed B.named
  have hlocks := B.notSynchronized
  subst hsz
  have hD : ∀ c, va_D (fun _ => True) (mw n ad c) := fun c' => mw_D hD0 c'
  have hS : va_S (mA n ad s.heap.size) s.heap s.heap [] := va_S.rf
  have hl := lv_entry ([.int x]) (n := 1) (Nat.le_of_ble_eq_true rfl)
  rw [lg_entry_eq]
  generalize (lg_sl ([.int x]) ++ List.replicate (1 - (lg_sl ([.int x])).length) Slot.unset).toArray = ls at hl ⊢
  have hl : lv_has ls 1 [(0, .int x)] := hl
  refine lv_iload_n hx hb dX0_hexadecimalDigit_0 rfl (lv_at hl 0 rfl) ?_
  refine mx_ci (va_runSN (As := [.int x]) (rest := []) ⟨hx, hb, hml, hown, hts⟩ (c_isDig l D ca n ad c x _) ⟨va_cnB 1 hts (gW wm_199) rfl rfl rfl (hN.1 _ nn_10) (hts _ wm_1) (by decide +kernel) ⟨Nat.le_of_ble_eq_true rfl, Nat.le_of_ble_eq_true rfl⟩, hts _ wm_198, trivial⟩ (mx_ps hK hP hD hN) rfl rfl hl.1 rfl (lv_room (Nat.le_of_ble_eq_true rfl)) dX0_hexadecimalDigit_1 ⟨Nat.zero_le _, Nat.zero_le _⟩) (Nat.le_refl _) hS (fun r c1 H locs hw hP hS => ?_)
  obtain ⟨hcE, hw⟩ := hw
  rw [hcE] at hP
  rw [hxb] at hw
  refine lv_if_eq (tgt := 12) hx hb dX0_hexadecimalDigit_4 (by decide) (fun hc => ?_) (fun hc => ?_)
  · skip
    have hnd : isDg b = false := by rcases hw with h | h; exact absurd (h.2.2.symm.trans hc) (by decide); exact isDg_f hb8 h.1
    refine lv_iload_n hx hb dX0_hexadecimalDigit_12 rfl (lv_at hl 0 rfl) ?_
    refine lv_bipush (v := 97) hx hb dX0_hexadecimalDigit_13 (by decide) ?_
    refine lv_icmp_lt (tgt := 32) hx hb dX0_hexadecimalDigit_15 (by decide) (fun hc2 => ?_) (fun hc2 => ?_)
    · skip
      have hnf : ¬ (97 ≤ b ∧ b ≤ 102) := fun h => absurd h.1 (by have := (nI_ltI (a := b) (b := 97) (by omega) (by omega)).mp (by rw [← hxb]; exact hc2); omega)
      refine lv_iload_n hx hb dX0_hexadecimalDigit_32 rfl (lv_at hl 0 rfl) ?_
      refine lv_bipush (v := 65) hx hb dX0_hexadecimalDigit_33 (by decide) ?_
      refine lv_icmp_lt (tgt := 52) hx hb dX0_hexadecimalDigit_35 (by decide) (fun hc4 => ?_) (fun hc4 => ?_)
      · skip
        refine lv_iconst (v := (-1)) hx hb dX0_hexadecimalDigit_52 (by decide) ?_
        exact mx_iret hx hb hr hlocks hP hS (⟨rfl, by unfold hxI hxD; rw [hnd, if_neg (by decide), if_neg hnf, if_neg (fun h => absurd h.1 (by have := (nI_ltI (a := b) (b := 65) (by omega) (by omega)).mp (by rw [← hxb]; exact hc4); omega))]⟩) dX0_hexadecimalDigit_53
      · skip
        refine lv_iload_n hx hb dX0_hexadecimalDigit_38 rfl (lv_at hl 0 rfl) ?_
        refine lv_bipush (v := 70) hx hb dX0_hexadecimalDigit_39 (by decide) ?_
        refine lv_icmp_gt (tgt := 52) hx hb dX0_hexadecimalDigit_41 (by decide) (fun hc5 => ?_) (fun hc5 => ?_)
        · skip
          refine lv_iconst (v := (-1)) hx hb dX0_hexadecimalDigit_52 (by decide) ?_
          exact mx_iret hx hb hr hlocks hP hS (⟨rfl, by unfold hxI hxD; rw [hnd, if_neg (by decide), if_neg hnf, if_neg (fun h => absurd h.2 (by have := (nI_ltI (a := 70) (b := b) (by omega) (by omega)).mp (by rw [← hxb]; exact hc5); omega))]⟩) dX0_hexadecimalDigit_53
        · skip
          have h65 : 65 ≤ b := by have := (not_congr (nI_ltI (b := 65) (by omega : b < 2 ^ 31) (by omega))).mp (by rw [← hxb]; exact hc4); omega
          have h70 : b ≤ 70 := by have := (not_congr (nI_ltI (a := 70) (by omega) (by omega : b < 2 ^ 31))).mp (by rw [← hxb]; exact hc5); omega
          refine lv_iload_n hx hb dX0_hexadecimalDigit_44 rfl (lv_at hl 0 rfl) ?_
          refine lv_bipush (v := 65) hx hb dX0_hexadecimalDigit_45 (by decide) ?_
          refine lv_isub hx hb dX0_hexadecimalDigit_47 ?_
          refine lv_bipush (v := 10) hx hb dX0_hexadecimalDigit_48 (by decide) ?_
          refine lv_iadd hx hb dX0_hexadecimalDigit_50 ?_
          refine mx_i (hxI b) (by unfold hxI hxD; rw [hnd, if_neg (by decide), if_neg hnf, if_pos ⟨h65, h70⟩, hxb]; exact hx_eq (a := 65) h65 (by decide)) ?_
          exact mx_iret hx hb hr hlocks hP hS (⟨rfl, rfl⟩) dX0_hexadecimalDigit_51
    · skip
      refine lv_iload_n hx hb dX0_hexadecimalDigit_18 rfl (lv_at hl 0 rfl) ?_
      refine lv_bipush (v := 102) hx hb dX0_hexadecimalDigit_19 (by decide) ?_
      refine lv_icmp_gt (tgt := 32) hx hb dX0_hexadecimalDigit_21 (by decide) (fun hc3 => ?_) (fun hc3 => ?_)
      · skip
        have hnf : ¬ (97 ≤ b ∧ b ≤ 102) := fun h => absurd h.2 (by have := (nI_ltI (a := 102) (b := b) (by omega) (by omega)).mp (by rw [← hxb]; exact hc3); omega)
        refine lv_iload_n hx hb dX0_hexadecimalDigit_32 rfl (lv_at hl 0 rfl) ?_
        refine lv_bipush (v := 65) hx hb dX0_hexadecimalDigit_33 (by decide) ?_
        refine lv_icmp_lt (tgt := 52) hx hb dX0_hexadecimalDigit_35 (by decide) (fun hc4 => ?_) (fun hc4 => ?_)
        · skip
          refine lv_iconst (v := (-1)) hx hb dX0_hexadecimalDigit_52 (by decide) ?_
          exact mx_iret hx hb hr hlocks hP hS (⟨rfl, by unfold hxI hxD; rw [hnd, if_neg (by decide), if_neg hnf, if_neg (fun h => absurd h.1 (by have := (nI_ltI (a := b) (b := 65) (by omega) (by omega)).mp (by rw [← hxb]; exact hc4); omega))]⟩) dX0_hexadecimalDigit_53
        · skip
          refine lv_iload_n hx hb dX0_hexadecimalDigit_38 rfl (lv_at hl 0 rfl) ?_
          refine lv_bipush (v := 70) hx hb dX0_hexadecimalDigit_39 (by decide) ?_
          refine lv_icmp_gt (tgt := 52) hx hb dX0_hexadecimalDigit_41 (by decide) (fun hc5 => ?_) (fun hc5 => ?_)
          · skip
            refine lv_iconst (v := (-1)) hx hb dX0_hexadecimalDigit_52 (by decide) ?_
            exact mx_iret hx hb hr hlocks hP hS (⟨rfl, by unfold hxI hxD; rw [hnd, if_neg (by decide), if_neg hnf, if_neg (fun h => absurd h.2 (by have := (nI_ltI (a := 70) (b := b) (by omega) (by omega)).mp (by rw [← hxb]; exact hc5); omega))]⟩) dX0_hexadecimalDigit_53
          · skip
            have h65 : 65 ≤ b := by have := (not_congr (nI_ltI (b := 65) (by omega : b < 2 ^ 31) (by omega))).mp (by rw [← hxb]; exact hc4); omega
            have h70 : b ≤ 70 := by have := (not_congr (nI_ltI (a := 70) (by omega) (by omega : b < 2 ^ 31))).mp (by rw [← hxb]; exact hc5); omega
            refine lv_iload_n hx hb dX0_hexadecimalDigit_44 rfl (lv_at hl 0 rfl) ?_
            refine lv_bipush (v := 65) hx hb dX0_hexadecimalDigit_45 (by decide) ?_
            refine lv_isub hx hb dX0_hexadecimalDigit_47 ?_
            refine lv_bipush (v := 10) hx hb dX0_hexadecimalDigit_48 (by decide) ?_
            refine lv_iadd hx hb dX0_hexadecimalDigit_50 ?_
            refine mx_i (hxI b) (by unfold hxI hxD; rw [hnd, if_neg (by decide), if_neg hnf, if_pos ⟨h65, h70⟩, hxb]; exact hx_eq (a := 65) h65 (by decide)) ?_
            exact mx_iret hx hb hr hlocks hP hS (⟨rfl, rfl⟩) dX0_hexadecimalDigit_51
      · skip
        have h97 : 97 ≤ b := by have := (not_congr (nI_ltI (b := 97) (by omega : b < 2 ^ 31) (by omega))).mp (by rw [← hxb]; exact hc2); omega
        have h102 : b ≤ 102 := by have := (not_congr (nI_ltI (a := 102) (by omega) (by omega : b < 2 ^ 31))).mp (by rw [← hxb]; exact hc3); omega
        refine lv_iload_n hx hb dX0_hexadecimalDigit_24 rfl (lv_at hl 0 rfl) ?_
        refine lv_bipush (v := 97) hx hb dX0_hexadecimalDigit_25 (by decide) ?_
        refine lv_isub hx hb dX0_hexadecimalDigit_27 ?_
        refine lv_bipush (v := 10) hx hb dX0_hexadecimalDigit_28 (by decide) ?_
        refine lv_iadd hx hb dX0_hexadecimalDigit_30 ?_
        refine mx_i (hxI b) (by unfold hxI hxD; rw [hnd, if_neg (by decide), if_pos ⟨h97, h102⟩, hxb]; exact hx_eq (a := 97) h97 (by decide)) ?_
        exact mx_iret hx hb hr hlocks hP hS (⟨rfl, rfl⟩) dX0_hexadecimalDigit_31
  · skip
    have hdg : isDg b = true := by rcases hw with h | h; exact isDg_t hb8 h.1 h.2.1; exact absurd h.2 hc
    refine lv_iload_n hx hb dX0_hexadecimalDigit_7 rfl (lv_at hl 0 rfl) ?_
    refine lv_bipush (v := 48) hx hb dX0_hexadecimalDigit_8 (by decide) ?_
    refine lv_isub hx hb dX0_hexadecimalDigit_10 ?_
    refine mx_i (hxI b) (by unfold hxI hxD; rw [if_pos hdg, hxb]; exact pk_sub (b := 48) (isDg_le hdg).1) ?_
    exact mx_iret hx hb hr hlocks hP hS (⟨rfl, rfl⟩) dX0_hexadecimalDigit_11
set_option maxHeartbeats 4000000 in
set_option maxRecDepth 100000 in
/-- Numeral.takeDigitBelowZero(x) -/
theorem c_Num_take (l : Launch) (D : va_G) (ca : Nat → ClassId) (n : Nat) (ad : Nat → Nat) (c : Nat → va_E) {k : Nat} {v0 : Int64} (hk : k < n) (hV : tNm c k v0) (x : Int32) : mInt l yX0_takeDigitBelowZero wsX0_takeDigitBelowZero ({ frames := 0, cells := 0, slots := 0, locals := 0 }) [.ref (ad k), .int x] D (tTY ca) n ad c (fun r c' => (∃ v', gTake v0 x = some v' ∧ r = 1 ∧ tNm c' k v' ∧ ∀ j, j ≠ k → c' j = c j) ∨ (gTake v0 x = none ∧ r = 0 ∧ c' = c)) := by
  intro sz
  refine Met.ofW (cc := cX0_takeDigitBelowZero) (maxL := 2) (ret := (some .boolean)) (by decide) rfl ?_
  intro pg9 ev9 s m args below meth cd s₁ B hml hv
  obtain ⟨rfl, hsz, hP, hK, hD0, hN⟩ := hv
  have hx := B.exec
  have hb := B.bytes
  have hr := B.returns
  have hts := fun (w : Cond) (h : w ∈ WSa) => atoms_spec (ws := wsX0_takeDigitBelowZero) B.pre w (List.mem_cons_of_mem _ h)
  have hown : s.vm.findClass RX0 = some m.cls := findClass_of_methodNamed B.named
  have hlocks := B.notSynchronized
  subst hsz
  have hD : ∀ c, va_D (fun _ => True) (mw n ad c) := fun c' => mw_D hD0 c'
  have hS : va_S (mA n ad s.heap.size) s.heap s.heap [] := va_S.rf
  have hl := lv_entry ([.ref (ad k), .int x]) (n := 2) (Nat.le_of_ble_eq_true rfl)
  rw [lg_entry_eq]
  generalize (lg_sl ([.ref (ad k), .int x]) ++ List.replicate (2 - (lg_sl ([.ref (ad k), .int x])).length) Slot.unset).toArray = ls at hl ⊢
  have hl : lv_has ls 2 [(0, .ref (ad k)), (1, .int x)] := hl
  refine lv_aload_n hx hb dX0_takeDigitBelowZero_0 rfl (lv_at hl 0 rfl) ?_
  refine mx_get (ci := 0) (v := .long v0) (C := RX0) (T := TX0) (N := 1) hx hb hts inX0 hown hK hP hk hV rfl 0 (by decide) (hts _ wm_72) (fun _ h9 => h9) rfl dX0_takeDigitBelowZero_1 ?_
  refine lv_ldc2 (v := (-922337203685477580)) hx hb hown (hts _ wm_243) dX0_takeDigitBelowZero_4 ?_
  refine W.lcmp hx hb dX0_takeDigitBelowZero_7 ?_
  refine lv_if_lt (tgt := 29) hx hb dX0_takeDigitBelowZero_8 (by decide) (fun hc => ?_) (fun hc => ?_)
  · skip
    refine lv_iconst (v := 0) hx hb dX0_takeDigitBelowZero_29 (by decide) ?_
    exact mx_zret hx hb hr hlocks rfl hP hS (Or.inr ⟨if_pos (Or.inl ((lg_cmp_lt _ _).mp hc)), rfl, rfl⟩) dX0_takeDigitBelowZero_30
  · skip
    refine lv_aload_n hx hb dX0_takeDigitBelowZero_11 rfl (lv_at hl 0 rfl) ?_
    refine mx_get (ci := 0) (v := .long v0) (C := RX0) (T := TX0) (N := 1) hx hb hts inX0 hown hK hP hk hV rfl 0 (by decide) (hts _ wm_72) (fun _ h9 => h9) rfl dX0_takeDigitBelowZero_12 ?_
    refine lv_ldc2 (v := 10) hx hb hown (hts _ wm_244) dX0_takeDigitBelowZero_15 ?_
    refine lv_lmul hx hb dX0_takeDigitBelowZero_18 ?_
    refine lv_ldc2 (v := (-9223372036854775808)) hx hb hown (hts _ wm_245) dX0_takeDigitBelowZero_19 ?_
    refine lv_iload_n hx hb dX0_takeDigitBelowZero_22 rfl (lv_at hl 1 rfl) ?_
    refine lv_i2l (v := x.toInt64) hx hb dX0_takeDigitBelowZero_23 rfl ?_
    refine lv_ladd hx hb dX0_takeDigitBelowZero_24 ?_
    refine W.lcmp hx hb dX0_takeDigitBelowZero_25 ?_
    refine lv_if_ge (tgt := 31) hx hb dX0_takeDigitBelowZero_26 (by decide) (fun hc2 => ?_) (fun hc2 => ?_)
    · skip
      refine lv_aload_n hx hb dX0_takeDigitBelowZero_31 rfl (lv_at hl 0 rfl) ?_
      refine lv_aload_n hx hb dX0_takeDigitBelowZero_32 rfl (lv_at hl 0 rfl) ?_
      refine mx_get (ci := 0) (v := .long v0) (C := RX0) (T := TX0) (N := 1) hx hb hts inX0 hown hK hP hk hV rfl 0 (by decide) (hts _ wm_72) (fun _ h9 => h9) rfl dX0_takeDigitBelowZero_33 ?_
      refine lv_ldc2 (v := 10) hx hb hown (hts _ wm_244) dX0_takeDigitBelowZero_36 ?_
      refine lv_lmul hx hb dX0_takeDigitBelowZero_39 ?_
      refine lv_iload_n hx hb dX0_takeDigitBelowZero_40 rfl (lv_at hl 1 rfl) ?_
      refine lv_i2l (v := x.toInt64) hx hb dX0_takeDigitBelowZero_41 rfl ?_
      refine lv_lsub hx hb dX0_takeDigitBelowZero_42 ?_
      refine mx_put (ci := 0) (v := .long ((v0 * 10) - x.toInt64)) (ty := .long) (C := RX0) (T := TX0) (N := 1) hx hb hts inX0 tyX0 tyX0_ok nmX0 hown hK hP hD hS hk hV rfl 0 (by decide) (hts _ wm_72) (fun _ h9 => h9) rfl (by decide +kernel) rfl rfl (Nat.le_of_ble_eq_true rfl) dX0_takeDigitBelowZero_43 (fun H locs hP hS => ?_)
      obtain ⟨c1, ec1⟩ : ∃ z : Nat → va_E, z = va_up c k (.inr (0, [.long ((v0 * 10) - x.toInt64)])) := ⟨_, rfl⟩
      have hP : va_P D vwCl (mw n ad c1) H := by rw [ec1]; exact hP
      have hsc1 : ∀ j, j ≠ k → c1 j = c j := fun j h => by rw [ec1]; exact va_up_ne _ _ h
      have hcc1 : c1 k = .inr (0, [.long ((v0 * 10) - x.toInt64)]) := by rw [ec1]; exact va_up_self _ _ _
      refine lv_iconst (v := 1) hx hb dX0_takeDigitBelowZero_46 (by decide) ?_
      exact mx_zret hx hb hr hlocks rfl hP hS (Or.inl ⟨_, if_neg (fun h => h.elim (fun q => hc ((lg_cmp_lt _ _).mpr q)) (fun q => absurd ((lg_cmp_ge _ _).mp hc2) (Int64.not_le.mpr q))), rfl, hcc1, hsc1⟩) dX0_takeDigitBelowZero_47
    · skip
      refine lv_iconst (v := 0) hx hb dX0_takeDigitBelowZero_29 (by decide) ?_
      exact mx_zret hx hb hr hlocks rfl hP hS (Or.inr ⟨if_pos (Or.inr (Int64.not_le.mp (fun h => hc2 ((lg_cmp_ge _ _).mpr h)))), rfl, rfl⟩) dX0_takeDigitBelowZero_30
set_option maxHeartbeats 4000000 in
set_option maxRecDepth 100000 in
/-- Numeral.readHexadecimal -/
theorem c_Num_hex (l : Launch) (D : va_G) (ca : Nat → ClassId) (n : Nat) (ad : Nat → Nat) (c : Nat → va_E) {k : Nat} {v0 : Int64} (hk : k < n) (hV : tNm c k v0) {k2 cap : Nat} {t : List Nat} (hk2 : k2 + 1 < n) (hT : tTx ca ad c k2 cap t) (hd : k2 ≠ k ∧ k2 + 1 ≠ k) (x : Int32) (i0 : Nat) (hx0 : x = nI i0) (hi0 : i0 ≤ t.length) (mi : Bool) : mInt l yX0_readHexadecimal wsX0_readHexadecimal ({ frames := 2, cells := 0, slots := 0, locals := 40 }) [.ref (ad k), .ref (ad k2), .int x, .int (bI mi)] D (tTY ca) n ad c (fun r c' => (∃ v, pHex (t.drop i0) mi = some v ∧ r = 1 ∧ tNm c' k v ∧ ∀ j, j ≠ k → c' j = c j) ∨ (pHex (t.drop i0) mi = none ∧ r = 0 ∧ (∃ v, tNm c' k v) ∧ ∀ j, j ≠ k → c' j = c j)) := by
  intro sz
  refine Met.ofW (cc := cX0_readHexadecimal) (maxL := 7) (ret := (some .boolean)) (by decide) rfl ?_
  intro pg9 ev9 s m args below meth cd s₁ B hml hv
  obtain ⟨rfl, hsz, hP, hK, hD0, hN⟩ := hv
  have hx := B.exec
  have hb := B.bytes
  have hr := B.returns
  have hts := fun (w : Cond) (h : w ∈ WSa) => atoms_spec (ws := wsX0_readHexadecimal) B.pre w (List.mem_cons_of_mem _ h)
  have hown : s.vm.findClass RX0 = some m.cls := findClass_of_methodNamed B.named
  have hlocks := B.notSynchronized
  subst hsz
  have hD : ∀ c, va_D (fun _ => True) (mw n ad c) := fun c' => mw_D hD0 c'
  have hS : va_S (mA n ad s.heap.size) s.heap s.heap [] := va_S.rf
  have hl := lv_entry ([.ref (ad k), .ref (ad k2), .int x, .int (bI mi)]) (n := 7) (Nat.le_of_ble_eq_true rfl)
  rw [lg_entry_eq]
  generalize (lg_sl ([.ref (ad k), .ref (ad k2), .int x, .int (bI mi)]) ++ List.replicate (7 - (lg_sl ([.ref (ad k), .ref (ad k2), .int x, .int (bI mi)])).length) Slot.unset).toArray = ls at hl ⊢
  have hl : lv_has ls 7 [(0, .ref (ad k)), (1, .ref (ad k2)), (2, .int x), (3, .int (bI mi))] := hl
  have hcp := hT.cap
  have hle := hT.le
  refine lv_aload_n hx hb dX0_readHexadecimal_0 rfl (lv_at hl 1 rfl) ?_
  refine mx_getN (ci := 2) (v := .int (nI t.length)) (C := RX2) (T := TX2) (N := 2) hx hb hts inX2 hown hK hP (by omega : k2 < n) hT.cell rfl 1 (by decide) (hN.1 _ nn_0) (fun _ h9 => h9) rfl dX0_readHexadecimal_1 ?_
  refine lv_iload_n hx hb dX0_readHexadecimal_4 rfl (lv_at hl 2 rfl) ?_
  refine lv_isub hx hb dX0_readHexadecimal_5 ?_
  refine mx_i (nI (t.length - i0)) (by rw [hx0]; exact pk_sub hi0) ?_
  refine lv_istore (lv' := [(4, .int (nI (t.length - i0))), (0, .ref (ad k)), (1, .ref (ad k2)), (2, .int x), (3, .int (bI mi))]) hx hb dX0_readHexadecimal_6 hl (by decide) rfl (fun ls hl => ?_)
  refine lv_iload hx hb dX0_readHexadecimal_8 (lv_at hl 0 rfl) ?_
  refine lv_iconst (v := 1) hx hb dX0_readHexadecimal_10 (by decide) ?_
  refine lv_icmp_lt (tgt := 21) hx hb dX0_readHexadecimal_11 (by decide) (fun hc => ?_) (fun hc => ?_)
  · skip
    refine lv_iconst (v := 0) hx hb dX0_readHexadecimal_21 (by decide) ?_
    exact mx_zret hx hb hr hlocks rfl hP hS (Or.inr ⟨if_neg (fun h => absurd h.1 (by rw [List.length_drop]; have := (nI_ltI (b := 1) (by omega) (by omega)).mp hc; omega)), rfl, ⟨v0, hV⟩, fun j h => rfl⟩) dX0_readHexadecimal_22
  · skip
    refine lv_iload hx hb dX0_readHexadecimal_14 (lv_at hl 0 rfl) ?_
    refine lv_bipush (v := 16) hx hb dX0_readHexadecimal_16 (by decide) ?_
    refine lv_icmp_le (tgt := 23) hx hb dX0_readHexadecimal_18 (by decide) (fun hc2 => ?_) (fun hc2 => ?_)
    · skip
      have hct : 1 ≤ (t.drop i0).length ∧ (t.drop i0).length ≤ 16 := by rw [List.length_drop]; exact ⟨by have := (not_congr (nI_ltI (b := 1) (by omega : t.length - i0 < 2 ^ 31) (by omega))).mp hc; omega, (nI_leI (b := 16) (by omega) (by omega)).mp hc2⟩
      have loop : ∀ (q1 : Nat) (i : Nat) (v1 : Int64) (c1 : Nat → va_E) (H : Heap) (locs : List Loc) (ls : Array Slot), (i ≤ t.length) → (t.length < i + q1) → (hxRd (t.drop i0) 0 = hxRd (t.drop i) v1) → (tNm c1 k v1) → (∀ j, j ≠ k → c1 j = c j) → va_P D vwCl (mw n ad c1) H → va_S (mA n ad s.heap.size) s.heap H locs → lv_has ls 7 [(5, .int (nI i)), (0, .ref (ad k)), (1, .ref (ad k2)), (3, .int (bI mi))] → W pg9 l ev9 (headSpec wsX0_readHexadecimal ({ frames := 2, cells := 0, slots := 0, locals := 40 })).room s m ([.ref (ad k), .ref (ad k2), .int x, .int (bI mi)] : List Value).toArray below meth cd H locs 0 0 (MQ below (va_Qi (fun r c' => (∃ v, pHex (t.drop i0) mi = some v ∧ r = 1 ∧ tNm c' k v ∧ ∀ j, j ≠ k → c' j = c j) ∨ (pHex (t.drop i0) mi = none ∧ r = 0 ∧ (∃ v, tNm c' k v) ∧ ∀ j, j ≠ k → c' j = c j)) (mW D n ad) (mA n ad s.heap.size)) ([.ref (ad k), .ref (ad k2), .int x, .int (bI mi)] : List Value).toArray s 0 0 (mA n ad s.heap.size)) (F0 m 31 ls []) := by
        intro q1
        induction q1 with
        | zero => intro i v1 c1 H locs ls hi hq heq hV1 hs1 hP hS hl; omega
        | succ q1 ih =>
          intro i v1 c1 H locs ls hi hq heq hV1 hs1 hP hS hl
          have hT1 : tTx ca ad c1 k2 cap t := hT.keep (hs1 _ hd.1) (hs1 _ hd.2)
          refine lv_iload hx hb dX0_readHexadecimal_31 (lv_at hl 0 rfl) ?_
          refine lv_aload_n hx hb dX0_readHexadecimal_33 rfl (lv_at hl 2 rfl) ?_
          refine mx_getN (ci := 2) (v := .int (nI t.length)) (C := RX2) (T := TX2) (N := 2) hx hb hts inX2 hown hK hP (by omega : k2 < n) hT1.cell rfl 1 (by decide) (hN.1 _ nn_0) (fun _ h9 => h9) rfl dX0_readHexadecimal_34 ?_
          refine lv_icmp_ge (tgt := 79) hx hb dX0_readHexadecimal_37 (by decide) (fun hc => ?_) (fun hc => ?_)
          · skip
            have hge : t.length ≤ i := (nI_leI (by omega) (by omega)).mp hc
            have hsm : hxRd (t.drop i0) 0 = some v1 := by rw [heq, dr_nil hge]; rfl
            refine lv_iload_n hx hb dX0_readHexadecimal_79 rfl (lv_at hl 3 rfl) ?_
            refine lv_if_eq (tgt := 92) hx hb dX0_readHexadecimal_80 (by decide) (fun hc2 => ?_) (fun hc2 => ?_)
            · skip
              refine lv_iconst (v := 1) hx hb dX0_readHexadecimal_92 (by decide) ?_
              exact mx_zret hx hb hr hlocks rfl hP hS (Or.inl ⟨v1, by unfold pHex; rw [if_pos hct, hsm]; show some (if mi = true then -v1 else v1) = _; rw [if_neg (by rw [bI_eq hc2]; decide)], rfl, hV1, hs1⟩) dX0_readHexadecimal_93
            · skip
              refine lv_aload_n hx hb dX0_readHexadecimal_83 rfl (lv_at hl 1 rfl) ?_
              refine lv_aload_n hx hb dX0_readHexadecimal_84 rfl (lv_at hl 1 rfl) ?_
              refine mx_get (ci := 0) (v := .long v1) (C := RX0) (T := TX0) (N := 1) hx hb hts inX0 hown hK hP hk hV1 rfl 0 (by decide) (hts _ wm_72) (fun _ h9 => h9) rfl dX0_readHexadecimal_85 ?_
              refine lv_lneg hx hb dX0_readHexadecimal_88 ?_
              refine mx_put (ci := 0) (v := .long (-v1)) (ty := .long) (C := RX0) (T := TX0) (N := 1) hx hb hts inX0 tyX0 tyX0_ok nmX0 hown hK hP hD hS hk hV1 rfl 0 (by decide) (hts _ wm_72) (fun _ h9 => h9) rfl (by decide +kernel) rfl rfl (Nat.le_of_ble_eq_true rfl) dX0_readHexadecimal_89 (fun H locs hP hS => ?_)
              obtain ⟨c2, ec2⟩ : ∃ z : Nat → va_E, z = va_up c1 k (.inr (0, [.long (-v1)])) := ⟨_, rfl⟩
              have hP : va_P D vwCl (mw n ad c2) H := by rw [ec2]; exact hP
              have hsc2 : ∀ j, j ≠ k → c2 j = c1 j := fun j h => by rw [ec2]; exact va_up_ne _ _ h
              have hcc2 : c2 k = .inr (0, [.long (-v1)]) := by rw [ec2]; exact va_up_self _ _ _
              refine lv_iconst (v := 1) hx hb dX0_readHexadecimal_92 (by decide) ?_
              exact mx_zret hx hb hr hlocks rfl hP hS (Or.inl ⟨-v1, by unfold pHex; rw [if_pos hct, hsm]; show some (if mi = true then -v1 else v1) = _; rw [if_pos (bI_ne hc2)], rfl, hcc2, fun j h => (hsc2 j h).trans (hs1 j h)⟩) dX0_readHexadecimal_93
          · skip
            have hlt : i < t.length := by rcases Nat.lt_or_ge i t.length with h | h; exact h; exact absurd (nI_le h (by omega)) hc
            have hb8 : t.getD i 0 < 256 := hT.b8 _ (gD_mem hlt)
            refine lv_aload_n hx hb dX0_readHexadecimal_40 rfl (lv_at hl 2 rfl) ?_
            refine lv_iload hx hb dX0_readHexadecimal_41 (lv_at hl 0 rfl) ?_
            refine mx_ci (va_runV (As := [.int (nI i)]) (rest := []) ⟨hx, hb, hml, hown, hts⟩ (c_Text_at l D ca n ad c1 hk2 hT1 (nI i) _) (cwV 1 hts (gV wm_226 wm_142 wm_143 wm_2 wm_144) rfl rfl rfl (by decide +kernel) ⟨Nat.le_of_ble_eq_true rfl, Nat.le_of_ble_eq_true rfl⟩) (mx_pv (C := RX2) (T := TX2) (N := 2) (ci := 2) hK hP hD hN (by omega : k2 < n) hT1.cell rfl) rfl rfl hl.1 rfl (lv_room (Nat.le_of_ble_eq_true rfl)) dX0_readHexadecimal_43 ⟨Nat.zero_le _, Nat.zero_le _⟩) (Nat.le_refl _) hS (fun r1 c2 H locs hw hP hS => ?_)
            obtain ⟨hr1, hcE⟩ := hw
            rw [hcE] at hP
            refine mx_i (nI (t.getD i 0)) (by rw [hr1, tAtI_nI (by omega)]; exact if_pos hlt) ?_
            refine mx_ci (va_runS (As := [.int (nI (t.getD i 0))]) (rest := []) ⟨hx, hb, hml, hown, hts⟩ (c_hexDig l D ca n ad c1 (nI (t.getD i 0)) (t.getD i 0) hb8 rfl _) (cwS 1 hts (gS wm_231 wm_232 wm_4 wm_233) rfl rfl rfl (by decide +kernel) ⟨Nat.le_of_ble_eq_true rfl, Nat.le_of_ble_eq_true rfl⟩) (mx_ps hK hP hD hN) rfl rfl hl.1 rfl (lv_room (Nat.le_of_ble_eq_true rfl)) dX0_readHexadecimal_46 ⟨Nat.zero_le _, Nat.zero_le _⟩) (Nat.le_refl _) hS (fun r2 c2 H locs hw hP hS => ?_)
            obtain ⟨hcE, hr2⟩ := hw
            rw [hcE] at hP
            refine lv_istore (lv' := [(6, .int r2), (5, .int (nI i)), (0, .ref (ad k)), (1, .ref (ad k2)), (3, .int (bI mi))]) hx hb dX0_readHexadecimal_49 hl (by decide) rfl (fun ls hl => ?_)
            refine lv_iload hx hb dX0_readHexadecimal_51 (lv_at hl 0 rfl) ?_
            refine lv_iconst (v := (-1)) hx hb dX0_readHexadecimal_53 (by decide) ?_
            refine lv_icmp_ne (tgt := 59) hx hb dX0_readHexadecimal_54 (by decide) (fun hc2 => ?_) (fun hc2 => ?_)
            · skip
              obtain ⟨d, hdd⟩ : ∃ d, hxD (t.getD i 0) = some d := by
                cases h9 : hxD (t.getD i 0) with
                | some d => exact ⟨d, rfl⟩
                | none => exact absurd (by rw [hr2]; exact hxI_f h9) hc2
              refine lv_aload_n hx hb dX0_readHexadecimal_59 rfl (lv_at hl 2 rfl) ?_
              refine lv_aload_n hx hb dX0_readHexadecimal_60 rfl (lv_at hl 2 rfl) ?_
              refine mx_get (ci := 0) (v := .long v1) (C := RX0) (T := TX0) (N := 1) hx hb hts inX0 hown hK hP hk hV1 rfl 0 (by decide) (hts _ wm_72) (fun _ h9 => h9) rfl dX0_readHexadecimal_61 ?_
              refine lv_iconst (v := 4) hx hb dX0_readHexadecimal_64 (by decide) ?_
              refine lv_lshl (v := v1 <<< ((4 : Int32).toInt64 &&& 63)) hx hb dX0_readHexadecimal_65 rfl ?_
              refine lv_iload hx hb dX0_readHexadecimal_66 (lv_at hl 0 rfl) ?_
              refine lv_i2l (v := r2.toInt64) hx hb dX0_readHexadecimal_68 rfl ?_
              refine lv_lor hx hb dX0_readHexadecimal_69 ?_
              refine mx_l (v1 <<< ((4 : Int32).toInt64 &&& 63) ||| (nI d).toInt64) (by rw [hr2, hxI_t hdd]) ?_
              refine mx_put (ci := 0) (v := .long (v1 <<< ((4 : Int32).toInt64 &&& 63) ||| (nI d).toInt64)) (ty := .long) (C := RX0) (T := TX0) (N := 1) hx hb hts inX0 tyX0 tyX0_ok nmX0 hown hK hP hD hS hk hV1 rfl 0 (by decide) (hts _ wm_72) (fun _ h9 => h9) rfl (by decide +kernel) rfl rfl (Nat.le_of_ble_eq_true rfl) dX0_readHexadecimal_70 (fun H locs hP hS => ?_)
              obtain ⟨c2, ec2⟩ : ∃ z : Nat → va_E, z = va_up c1 k (.inr (0, [.long (v1 <<< ((4 : Int32).toInt64 &&& 63) ||| (nI d).toInt64)])) := ⟨_, rfl⟩
              have hP : va_P D vwCl (mw n ad c2) H := by rw [ec2]; exact hP
              have hsc2 : ∀ j, j ≠ k → c2 j = c1 j := fun j h => by rw [ec2]; exact va_up_ne _ _ h
              have hcc2 : c2 k = .inr (0, [.long (v1 <<< ((4 : Int32).toInt64 &&& 63) ||| (nI d).toInt64)]) := by rw [ec2]; exact va_up_self _ _ _
              refine lv_iinc (v := nI (i + 1)) (lv' := [(5, .int (nI (i + 1))), (6, .int r2), (0, .ref (ad k)), (1, .ref (ad k2)), (3, .int (bI mi))]) hx hb dX0_readHexadecimal_73 hl (k := 1) rfl (nI_1 i) (by decide) rfl (fun ls hl => ?_)
              refine lv_goto (tgt := 31) hx hb dX0_readHexadecimal_76 (by decide) ?_
              exact ih (i + 1) _ c2 H locs ls (by omega) (by omega) (by rw [heq, dr_cons hlt]; show (match hxD _ with | some d => hxRd _ _ | none => none : Option Int64) = _; rw [hdd]) hcc2 (fun j h => (hsc2 j h).trans (hs1 j h)) hP hS (lv_sub hl [0, 2, 3, 4] rfl)
            · skip
              have hdd : hxD (t.getD i 0) = none := by
                cases h9 : hxD (t.getD i 0) with
                | some d => exact absurd (by rw [← hxI_t h9, ← hr2]; exact hc2) (nI_ne_m1 (d := d) (by have := hxD_lt h9; omega))
                | none => rfl
              refine lv_iconst (v := 0) hx hb dX0_readHexadecimal_57 (by decide) ?_
              exact mx_zret hx hb hr hlocks rfl hP hS (Or.inr ⟨by unfold pHex; rw [if_pos hct, heq, dr_cons hlt]; show (match (match hxD _ with | some d => hxRd _ _ | none => none : Option Int64) with | some v => some (if mi = true then -v else v) | none => none : Option Int64) = _; rw [hdd], rfl, ⟨v1, hV1⟩, hs1⟩) dX0_readHexadecimal_58
      refine lv_aload_n hx hb dX0_readHexadecimal_23 rfl (lv_at hl 1 rfl) ?_
      refine lv_lconst (v := 0) hx hb dX0_readHexadecimal_24 (by decide) ?_
      refine mx_put (ci := 0) (v := .long 0) (ty := .long) (C := RX0) (T := TX0) (N := 1) hx hb hts inX0 tyX0 tyX0_ok nmX0 hown hK hP hD hS hk hV rfl 0 (by decide) (hts _ wm_72) (fun _ h9 => h9) rfl (by decide +kernel) rfl rfl (Nat.le_of_ble_eq_true rfl) dX0_readHexadecimal_25 (fun H locs hP hS => ?_)
      obtain ⟨a1, ea1⟩ : ∃ z : Nat → va_E, z = va_up c k (.inr (0, [.long 0])) := ⟨_, rfl⟩
      have hP : va_P D vwCl (mw n ad a1) H := by rw [ea1]; exact hP
      have hsa1 : ∀ j, j ≠ k → a1 j = c j := fun j h => by rw [ea1]; exact va_up_ne _ _ h
      have hca1 : a1 k = .inr (0, [.long 0]) := by rw [ea1]; exact va_up_self _ _ _
      refine lv_iload_n hx hb dX0_readHexadecimal_28 rfl (lv_at hl 3 rfl) ?_
      refine lv_istore (lv' := [(5, .int x), (4, .int (nI (t.length - i0))), (0, .ref (ad k)), (1, .ref (ad k2)), (2, .int x), (3, .int (bI mi))]) hx hb dX0_readHexadecimal_29 hl (by decide) rfl (fun ls hl => ?_)
      exact loop (t.length + 1 - i0 + 1) i0 0 a1 _ _ ls hi0 (by omega) rfl hca1 hsa1 hP hS (by have h9 := (lv_sub hl [0, 2, 3, 5] rfl); rw [← hx0]; exact h9)
    · skip
      refine lv_iconst (v := 0) hx hb dX0_readHexadecimal_21 (by decide) ?_
      exact mx_zret hx hb hr hlocks rfl hP hS (Or.inr ⟨if_neg (fun h => absurd h.2 (by rw [List.length_drop]; have := (not_congr (nI_leI (b := 16) (by omega : t.length - i0 < 2 ^ 31) (by omega))).mp hc2; omega)), rfl, ⟨v0, hV⟩, fun j h => rfl⟩) dX0_readHexadecimal_22
set_option maxHeartbeats 4000000 in
set_option maxRecDepth 100000 in
/-- Numeral.readDecimal -/
theorem c_Num_dec (l : Launch) (D : va_G) (ca : Nat → ClassId) (n : Nat) (ad : Nat → Nat) (c : Nat → va_E) {k : Nat} {v0 : Int64} (hk : k < n) (hV : tNm c k v0) {k2 cap : Nat} {t : List Nat} (hk2 : k2 + 1 < n) (hT : tTx ca ad c k2 cap t) (hd : k2 ≠ k ∧ k2 + 1 ≠ k) (x : Int32) (i0 : Nat) (hx0 : x = nI i0) (hi0 : i0 < 2 ^ 20) (mi : Bool) : mInt l yX0_readDecimal wsX0_readDecimal ({ frames := 1, cells := 0, slots := 0, locals := 21 }) [.ref (ad k), .ref (ad k2), .int x, .int (bI mi)] D (tTY ca) n ad c (fun r c' => (∃ v, pDec (t.drop i0) mi = some v ∧ r = 1 ∧ tNm c' k v ∧ ∀ j, j ≠ k → c' j = c j) ∨ (pDec (t.drop i0) mi = none ∧ r = 0 ∧ (∃ v, tNm c' k v) ∧ ∀ j, j ≠ k → c' j = c j)) := by
  intro sz
  refine Met.ofW (cc := cX0_readDecimal) (maxL := 6) (ret := (some .boolean)) (by decide) rfl ?_
  intro pg9 ev9 s m args below meth cd s₁ B hml hv
  obtain ⟨rfl, hsz, hP, hK, hD0, hN⟩ := hv
  have hx := B.exec
  have hb := B.bytes
  have hr := B.returns
  have hts := fun (w : Cond) (h : w ∈ WSa) => atoms_spec (ws := wsX0_readDecimal) B.pre w (List.mem_cons_of_mem _ h)
  have hown : s.vm.findClass RX0 = some m.cls := findClass_of_methodNamed B.named
  have hlocks := B.notSynchronized
  subst hsz
  have hD : ∀ c, va_D (fun _ => True) (mw n ad c) := fun c' => mw_D hD0 c'
  have hS : va_S (mA n ad s.heap.size) s.heap s.heap [] := va_S.rf
  have hl := lv_entry ([.ref (ad k), .ref (ad k2), .int x, .int (bI mi)]) (n := 6) (Nat.le_of_ble_eq_true rfl)
  rw [lg_entry_eq]
  generalize (lg_sl ([.ref (ad k), .ref (ad k2), .int x, .int (bI mi)]) ++ List.replicate (6 - (lg_sl ([.ref (ad k), .ref (ad k2), .int x, .int (bI mi)])).length) Slot.unset).toArray = ls at hl ⊢
  have hl : lv_has ls 6 [(0, .ref (ad k)), (1, .ref (ad k2)), (2, .int x), (3, .int (bI mi))] := hl
  have hcp := hT.cap
  have hle := hT.le
  refine lv_iload_n hx hb dX0_readDecimal_0 rfl (lv_at hl 2 rfl) ?_
  refine lv_aload_n hx hb dX0_readDecimal_1 rfl (lv_at hl 1 rfl) ?_
  refine mx_getN (ci := 2) (v := .int (nI t.length)) (C := RX2) (T := TX2) (N := 2) hx hb hts inX2 hown hK hP (by omega : k2 < n) hT.cell rfl 1 (by decide) (hN.1 _ nn_0) (fun _ h9 => h9) rfl dX0_readDecimal_2 ?_
  refine lv_icmp_lt (tgt := 10) hx hb dX0_readDecimal_5 (by decide) (fun hc => ?_) (fun hc => ?_)
  · skip
    have hlt0 : i0 < t.length := (nI_ltI (by omega) (by omega)).mp (by rw [← hx0]; exact hc)
    have loop : ∀ (q1 : Nat) (i : Nat) (v1 : Int64) (c1 : Nat → va_E) (H : Heap) (locs : List Loc) (ls : Array Slot), (i ≤ t.length) → (t.length < i + q1) → (gRd (t.drop i0) 0 = gRd (t.drop i) v1) → (tNm c1 k v1) → (∀ j, j ≠ k → c1 j = c j) → va_P D vwCl (mw n ad c1) H → va_S (mA n ad s.heap.size) s.heap H locs → lv_has ls 6 [(4, .int (nI i)), (0, .ref (ad k)), (1, .ref (ad k2)), (3, .int (bI mi))] → W pg9 l ev9 (headSpec wsX0_readDecimal ({ frames := 1, cells := 0, slots := 0, locals := 21 })).room s m ([.ref (ad k), .ref (ad k2), .int x, .int (bI mi)] : List Value).toArray below meth cd H locs 0 0 (MQ below (va_Qi (fun r c' => (∃ v, pDec (t.drop i0) mi = some v ∧ r = 1 ∧ tNm c' k v ∧ ∀ j, j ≠ k → c' j = c j) ∨ (pDec (t.drop i0) mi = none ∧ r = 0 ∧ (∃ v, tNm c' k v) ∧ ∀ j, j ≠ k → c' j = c j)) (mW D n ad) (mA n ad s.heap.size)) ([.ref (ad k), .ref (ad k2), .int x, .int (bI mi)] : List Value).toArray s 0 0 (mA n ad s.heap.size)) (F0 m 18 ls []) := by
      intro q1
      induction q1 with
      | zero => intro i v1 c1 H locs ls hi hq heq hV1 hs1 hP hS hl; omega
      | succ q1 ih =>
        intro i v1 c1 H locs ls hi hq heq hV1 hs1 hP hS hl
        have hT1 : tTx ca ad c1 k2 cap t := hT.keep (hs1 _ hd.1) (hs1 _ hd.2)
        refine lv_iload hx hb dX0_readDecimal_18 (lv_at hl 0 rfl) ?_
        refine lv_aload_n hx hb dX0_readDecimal_20 rfl (lv_at hl 2 rfl) ?_
        refine mx_getN (ci := 2) (v := .int (nI t.length)) (C := RX2) (T := TX2) (N := 2) hx hb hts inX2 hown hK hP (by omega : k2 < n) hT1.cell rfl 1 (by decide) (hN.1 _ nn_0) (fun _ h9 => h9) rfl dX0_readDecimal_21 ?_
        refine lv_icmp_ge (tgt := 63) hx hb dX0_readDecimal_24 (by decide) (fun hc => ?_) (fun hc => ?_)
        · skip
          have hge : t.length ≤ i := (nI_leI (by omega) (by omega)).mp hc
          have hsm : gRd (t.drop i0) 0 = some v1 := by rw [heq, dr_nil hge]; rfl
          refine lv_iload_n hx hb dX0_readDecimal_63 rfl (lv_at hl 3 rfl) ?_
          refine lv_if_eq (tgt := 69) hx hb dX0_readDecimal_64 (by decide) (fun hc2 => ?_) (fun hc2 => ?_)
          · skip
            refine lv_aload_n hx hb dX0_readDecimal_69 rfl (lv_at hl 1 rfl) ?_
            refine mx_get (ci := 0) (v := .long v1) (C := RX0) (T := TX0) (N := 1) hx hb hts inX0 hown hK hP hk hV1 rfl 0 (by decide) (hts _ wm_72) (fun _ h9 => h9) rfl dX0_readDecimal_70 ?_
            refine lv_ldc2 (v := (-9223372036854775808)) hx hb hown (hts _ wm_245) dX0_readDecimal_73 ?_
            refine W.lcmp hx hb dX0_readDecimal_76 ?_
            refine lv_if_ne (tgt := 82) hx hb dX0_readDecimal_77 (by decide) (fun hc3 => ?_) (fun hc3 => ?_)
            · skip
              have hlow : ¬ v1 = -9223372036854775808 := fun h => hc3 ((lg_cmp_eq _ _).mpr h)
              refine lv_aload_n hx hb dX0_readDecimal_82 rfl (lv_at hl 1 rfl) ?_
              refine lv_aload_n hx hb dX0_readDecimal_83 rfl (lv_at hl 1 rfl) ?_
              refine mx_get (ci := 0) (v := .long v1) (C := RX0) (T := TX0) (N := 1) hx hb hts inX0 hown hK hP hk hV1 rfl 0 (by decide) (hts _ wm_72) (fun _ h9 => h9) rfl dX0_readDecimal_84 ?_
              refine lv_lneg hx hb dX0_readDecimal_87 ?_
              refine mx_put (ci := 0) (v := .long (-v1)) (ty := .long) (C := RX0) (T := TX0) (N := 1) hx hb hts inX0 tyX0 tyX0_ok nmX0 hown hK hP hD hS hk hV1 rfl 0 (by decide) (hts _ wm_72) (fun _ h9 => h9) rfl (by decide +kernel) rfl rfl (Nat.le_of_ble_eq_true rfl) dX0_readDecimal_88 (fun H locs hP hS => ?_)
              obtain ⟨c2, ec2⟩ : ∃ z : Nat → va_E, z = va_up c1 k (.inr (0, [.long (-v1)])) := ⟨_, rfl⟩
              have hP : va_P D vwCl (mw n ad c2) H := by rw [ec2]; exact hP
              have hsc2 : ∀ j, j ≠ k → c2 j = c1 j := fun j h => by rw [ec2]; exact va_up_ne _ _ h
              have hcc2 : c2 k = .inr (0, [.long (-v1)]) := by rw [ec2]; exact va_up_self _ _ _
              refine lv_iconst (v := 1) hx hb dX0_readDecimal_91 (by decide) ?_
              exact mx_zret hx hb hr hlocks rfl hP hS (Or.inl ⟨-v1, by rw [pDec_s hlt0 hsm, if_neg (by rw [bI_eq hc2]; decide), if_neg hlow], rfl, hcc2, fun j h => (hsc2 j h).trans (hs1 j h)⟩) dX0_readDecimal_92
            · skip
              refine lv_iconst (v := 0) hx hb dX0_readDecimal_80 (by decide) ?_
              exact mx_zret hx hb hr hlocks rfl hP hS (Or.inr ⟨by rw [pDec_s hlt0 hsm, if_neg (by rw [bI_eq hc2]; decide), if_pos ((lg_cmp_eq _ _).mp hc3)], rfl, ⟨v1, hV1⟩, hs1⟩) dX0_readDecimal_81
          · skip
            refine lv_iconst (v := 1) hx hb dX0_readDecimal_67 (by decide) ?_
            exact mx_zret hx hb hr hlocks rfl hP hS (Or.inl ⟨v1, by rw [pDec_s hlt0 hsm, if_pos (bI_ne hc2)], rfl, hV1, hs1⟩) dX0_readDecimal_68
        · skip
          have hlt : i < t.length := by rcases Nat.lt_or_ge i t.length with h | h; exact h; exact absurd (nI_le h (by omega)) hc
          have hb8 : t.getD i 0 < 256 := hT.b8 _ (gD_mem hlt)
          refine lv_aload_n hx hb dX0_readDecimal_27 rfl (lv_at hl 2 rfl) ?_
          refine lv_iload hx hb dX0_readDecimal_28 (lv_at hl 0 rfl) ?_
          refine mx_ci (va_runV (As := [.int (nI i)]) (rest := []) ⟨hx, hb, hml, hown, hts⟩ (c_Text_at l D ca n ad c1 hk2 hT1 (nI i) _) (cwV 1 hts (gV wm_226 wm_142 wm_143 wm_2 wm_144) rfl rfl rfl (by decide +kernel) ⟨Nat.le_of_ble_eq_true rfl, Nat.le_of_ble_eq_true rfl⟩) (mx_pv (C := RX2) (T := TX2) (N := 2) (ci := 2) hK hP hD hN (by omega : k2 < n) hT1.cell rfl) rfl rfl hl.1 rfl (lv_room (Nat.le_of_ble_eq_true rfl)) dX0_readDecimal_30 ⟨Nat.zero_le _, Nat.zero_le _⟩) (Nat.le_refl _) hS (fun r1 c2 H locs hw hP hS => ?_)
          obtain ⟨hr1, hcE⟩ := hw
          rw [hcE] at hP
          refine mx_i (nI (t.getD i 0)) (by rw [hr1, tAtI_nI (by omega)]; exact if_pos hlt) ?_
          refine lv_istore (lv' := [(5, .int (nI (t.getD i 0))), (4, .int (nI i)), (0, .ref (ad k)), (1, .ref (ad k2)), (3, .int (bI mi))]) hx hb dX0_readDecimal_33 hl (by decide) rfl (fun ls hl => ?_)
          refine lv_iload hx hb dX0_readDecimal_35 (lv_at hl 0 rfl) ?_
          refine mx_ci (va_runSN (As := [.int (nI (t.getD i 0))]) (rest := []) ⟨hx, hb, hml, hown, hts⟩ (c_isDig l D ca n ad c1 (nI (t.getD i 0)) _) ⟨va_cnB 1 hts (gW wm_199) rfl rfl rfl (hN.1 _ nn_10) (hts _ wm_1) (by decide +kernel) ⟨Nat.le_of_ble_eq_true rfl, Nat.le_of_ble_eq_true rfl⟩, hts _ wm_198, trivial⟩ (mx_ps hK hP hD hN) rfl rfl hl.1 rfl (lv_room (Nat.le_of_ble_eq_true rfl)) dX0_readDecimal_37 ⟨Nat.zero_le _, Nat.zero_le _⟩) (Nat.le_refl _) hS (fun r2 c2 H locs hw hP hS => ?_)
          obtain ⟨hcE, hw⟩ := hw
          rw [hcE] at hP
          refine lv_if_eq (tgt := 55) hx hb dX0_readDecimal_40 (by decide) (fun hc2 => ?_) (fun hc2 => ?_)
          · skip
            have hnd : isDg (t.getD i 0) = false := by rcases hw with h | h; exact absurd (h.2.2.symm.trans hc2) (by decide); exact isDg_f hb8 h.1
            refine lv_iconst (v := 0) hx hb dX0_readDecimal_55 (by decide) ?_
            exact mx_zret hx hb hr hlocks rfl hP hS (Or.inr ⟨pDec_n hlt0 (by rw [heq, dr_cons hlt]; exact if_neg (by rw [hnd]; decide)), rfl, ⟨v1, hV1⟩, hs1⟩) dX0_readDecimal_56
          · skip
            have hdg : isDg (t.getD i 0) = true := by rcases hw with h | h; exact isDg_t hb8 h.1 h.2.1; exact absurd h.2 hc2
            refine lv_aload_n hx hb dX0_readDecimal_43 rfl (lv_at hl 2 rfl) ?_
            refine lv_iload hx hb dX0_readDecimal_44 (lv_at hl 0 rfl) ?_
            refine lv_bipush (v := 48) hx hb dX0_readDecimal_46 (by decide) ?_
            refine lv_isub hx hb dX0_readDecimal_48 ?_
            refine mx_i (nI (t.getD i 0 - 48)) (pk_sub (b := 48) (isDg_le hdg).1) ?_
            refine mx_ci (va_runV (As := [.int (nI (t.getD i 0 - 48))]) (rest := []) ⟨hx, hb, hml, hown, hts⟩ (c_Num_take l D ca n ad c1 hk hV1 (nI (t.getD i 0 - 48)) _) (cwV 1 hts (gV wm_239 wm_241 ws_9 wm_4 wm_242) rfl rfl rfl (by decide +kernel) ⟨Nat.le_of_ble_eq_true rfl, Nat.le_of_ble_eq_true rfl⟩) (mx_pv (C := RX0) (T := TX0) (N := 1) (ci := 0) hK hP hD hN hk hV1 rfl) rfl rfl hl.1 rfl (lv_room (Nat.le_of_ble_eq_true rfl)) dX0_readDecimal_49 ⟨Nat.zero_le _, Nat.zero_le _⟩) (Nat.le_refl _) hS (fun r3 c2 H locs hw2 hP hS => ?_)
            refine lv_if_ne (tgt := 57) hx hb dX0_readDecimal_52 (by decide) (fun hc3 => ?_) (fun hc3 => ?_)
            · skip
              obtain ⟨v2, hv2, -, hV2, hs2⟩ := hw2.resolve_right (fun h => hc3 h.2.1)
              refine lv_iinc (v := nI (i + 1)) (lv' := [(4, .int (nI (i + 1))), (5, .int (nI (t.getD i 0))), (0, .ref (ad k)), (1, .ref (ad k2)), (3, .int (bI mi))]) hx hb dX0_readDecimal_57 hl (k := 1) rfl (nI_1 i) (by decide) rfl (fun ls hl => ?_)
              refine lv_goto (tgt := 18) hx hb dX0_readDecimal_60 (by decide) ?_
              exact ih (i + 1) v2 c2 H locs ls (by omega) (by omega) (by rw [heq, dr_cons hlt]; show (if _ then _ else _) = _; rw [if_pos hdg, hv2]) hV2 (fun j h => (hs2 j h).trans (hs1 j h)) hP hS (lv_sub hl [0, 2, 3, 4] rfl)
            · skip
              obtain ⟨hv2, -, hcE⟩ := hw2.resolve_left (fun h => by obtain ⟨v9, h1, h2, -⟩ := h; rw [h2] at hc3; exact absurd hc3 (by decide))
              rw [hcE] at hP
              refine lv_iconst (v := 0) hx hb dX0_readDecimal_55 (by decide) ?_
              exact mx_zret hx hb hr hlocks rfl hP hS (Or.inr ⟨pDec_n hlt0 (by rw [heq, dr_cons hlt]; show (if _ then _ else _) = _; rw [if_pos hdg, hv2]), rfl, ⟨v1, hV1⟩, hs1⟩) dX0_readDecimal_56
    refine lv_aload_n hx hb dX0_readDecimal_10 rfl (lv_at hl 0 rfl) ?_
    refine lv_lconst (v := 0) hx hb dX0_readDecimal_11 (by decide) ?_
    refine mx_put (ci := 0) (v := .long 0) (ty := .long) (C := RX0) (T := TX0) (N := 1) hx hb hts inX0 tyX0 tyX0_ok nmX0 hown hK hP hD hS hk hV rfl 0 (by decide) (hts _ wm_72) (fun _ h9 => h9) rfl (by decide +kernel) rfl rfl (Nat.le_of_ble_eq_true rfl) dX0_readDecimal_12 (fun H locs hP hS => ?_)
    obtain ⟨a1, ea1⟩ : ∃ z : Nat → va_E, z = va_up c k (.inr (0, [.long 0])) := ⟨_, rfl⟩
    have hP : va_P D vwCl (mw n ad a1) H := by rw [ea1]; exact hP
    have hsa1 : ∀ j, j ≠ k → a1 j = c j := fun j h => by rw [ea1]; exact va_up_ne _ _ h
    have hca1 : a1 k = .inr (0, [.long 0]) := by rw [ea1]; exact va_up_self _ _ _
    refine lv_iload_n hx hb dX0_readDecimal_15 rfl (lv_at hl 2 rfl) ?_
    refine lv_istore (lv' := [(4, .int x), (0, .ref (ad k)), (1, .ref (ad k2)), (2, .int x), (3, .int (bI mi))]) hx hb dX0_readDecimal_16 hl (by decide) rfl (fun ls hl => ?_)
    exact loop (t.length + 1 - i0 + 1) i0 0 a1 _ _ ls (by omega) (by omega) rfl hca1 hsa1 hP hS (by have h9 := (lv_sub hl [0, 1, 2, 4] rfl); rw [← hx0]; exact h9)
  · skip
    refine lv_iconst (v := 0) hx hb dX0_readDecimal_8 (by decide) ?_
    exact mx_zret hx hb hr hlocks rfl hP hS (Or.inr ⟨by rw [dr_nil (by have := (not_congr (nI_ltI (a := i0) (b := t.length) (by omega) (by omega))).mp (by rw [← hx0]; exact hc); omega)]; rfl, rfl, ⟨v0, hV⟩, fun j h => rfl⟩) dX0_readDecimal_9
set_option maxHeartbeats 4000000 in
set_option maxRecDepth 100000 in
/-- Numeral.read(word) -/
theorem c_Num_read (l : Launch) (D : va_G) (ca : Nat → ClassId) (n : Nat) (ad : Nat → Nat) (c : Nat → va_E) {k : Nat} {v0 : Int64} (hk : k < n) (hV : tNm c k v0) {k2 cap : Nat} {t : List Nat} (hk2 : k2 + 1 < n) (hT : tTx ca ad c k2 cap t) (hd : k2 ≠ k ∧ k2 + 1 ≠ k) : mInt l yX0_read wsX0_read ({ frames := 3, cells := 0, slots := 0, locals := 66 }) [.ref (ad k), .ref (ad k2)] D (tTY ca) n ad c (fun r c' => (∃ v, pNum t = some v ∧ r = 1 ∧ tNm c' k v ∧ ∀ j, j ≠ k → c' j = c j) ∨ (pNum t = none ∧ r = 0 ∧ (∃ v, tNm c' k v) ∧ ∀ j, j ≠ k → c' j = c j)) := by
  intro sz
  refine Met.ofW (cc := cX0_read) (maxL := 4) (ret := (some .boolean)) (by decide) rfl ?_
  intro pg9 ev9 s m args below meth cd s₁ B hml hv
  obtain ⟨rfl, hsz, hP, hK, hD0, hN⟩ := hv
  have hx := B.exec
  have hb := B.bytes
  have hr := B.returns
  have hts := fun (w : Cond) (h : w ∈ WSa) => atoms_spec (ws := wsX0_read) B.pre w (List.mem_cons_of_mem _ h)
  have hown : s.vm.findClass RX0 = some m.cls := findClass_of_methodNamed B.named
  have hlocks := B.notSynchronized
  subst hsz
  have hD : ∀ c, va_D (fun _ => True) (mw n ad c) := fun c' => mw_D hD0 c'
  have hS : va_S (mA n ad s.heap.size) s.heap s.heap [] := va_S.rf
  have hl := lv_entry ([.ref (ad k), .ref (ad k2)]) (n := 4) (Nat.le_of_ble_eq_true rfl)
  rw [lg_entry_eq]
  generalize (lg_sl ([.ref (ad k), .ref (ad k2)]) ++ List.replicate (4 - (lg_sl ([.ref (ad k), .ref (ad k2)])).length) Slot.unset).toArray = ls at hl ⊢
  have hl : lv_has ls 4 [(0, .ref (ad k)), (1, .ref (ad k2))] := hl
  have hcp := hT.cap
  have hle := hT.le
  refine lv_aload_n hx hb dX0_read_0 rfl (lv_at hl 1 rfl) ?_
  refine lv_iconst (v := 0) hx hb dX0_read_1 (by decide) ?_
  refine mx_ci (va_runV (As := [.int 0]) (rest := []) ⟨hx, hb, hml, hown, hts⟩ (c_Text_at l D ca n ad c hk2 hT 0 _) (cwV 1 hts (gV wm_226 wm_142 wm_143 wm_2 wm_144) rfl rfl rfl (by decide +kernel) ⟨Nat.le_of_ble_eq_true rfl, Nat.le_of_ble_eq_true rfl⟩) (mx_pv (C := RX2) (T := TX2) (N := 2) (ci := 2) hK hP hD hN (by omega : k2 < n) hT.cell rfl) rfl rfl hl.1 rfl (lv_room (Nat.le_of_ble_eq_true rfl)) dX0_read_2 ⟨Nat.zero_le _, Nat.zero_le _⟩) (Nat.le_refl _) hS (fun r1 c9 H locs hw hP hS => ?_)
  obtain ⟨hr1, hcE⟩ := hw
  rw [hcE] at hP
  refine mx_i (tAt t 0) (hr1.trans (tAtI_nI (i := 0) (by decide))) ?_
  refine lv_bipush (v := 45) hx hb dX0_read_5 (by decide) ?_
  refine lv_icmp_ne (tgt := 14) hx hb dX0_read_7 (by decide) (fun hc => ?_) (fun hc => ?_)
  · skip
    refine lv_iconst (v := 0) hx hb dX0_read_14 (by decide) ?_
    refine lv_istore_n (lv' := [(2, .int 0), (0, .ref (ad k)), (1, .ref (ad k2))]) hx hb dX0_read_15 rfl hl (by decide) rfl (fun ls hl => ?_)
    refine lv_iload_n hx hb dX0_read_16 rfl (lv_at hl 0 rfl) ?_
    refine lv_if_ne (tgt := 30) hx hb dX0_read_17 (by decide) (fun hc9 => ?_) (fun hc9 => ?_)
    · skip
      exact absurd rfl hc9
    · skip
      refine lv_aload_n hx hb dX0_read_20 rfl (lv_at hl 2 rfl) ?_
      refine lv_iconst (v := 0) hx hb dX0_read_21 (by decide) ?_
      refine mx_ci (va_runV (As := [.int 0]) (rest := []) ⟨hx, hb, hml, hown, hts⟩ (c_Text_at l D ca n ad c hk2 hT 0 _) (cwV 1 hts (gV wm_226 wm_142 wm_143 wm_2 wm_144) rfl rfl rfl (by decide +kernel) ⟨Nat.le_of_ble_eq_true rfl, Nat.le_of_ble_eq_true rfl⟩) (mx_pv (C := RX2) (T := TX2) (N := 2) (ci := 2) hK hP hD hN (by omega : k2 < n) hT.cell rfl) rfl rfl hl.1 rfl (lv_room (Nat.le_of_ble_eq_true rfl)) dX0_read_22 ⟨Nat.zero_le _, Nat.zero_le _⟩) (Nat.le_refl _) hS (fun r2 c9 H locs hw hP hS => ?_)
      obtain ⟨hr2, hcE⟩ := hw
      rw [hcE] at hP
      refine mx_i (tAt t 0) (hr2.trans (tAtI_nI (i := 0) (by decide))) ?_
      refine lv_bipush (v := 43) hx hb dX0_read_25 (by decide) ?_
      refine lv_icmp_ne (tgt := 34) hx hb dX0_read_27 (by decide) (fun hc2 => ?_) (fun hc2 => ?_)
      · skip
        have hfr : (if tAt t 0 = 45 ∨ tAt t 0 = 43 then 1 else 0) = 0 := if_neg (fun h => h.elim hc hc2)
        have hmi : decide (tAt t 0 = 45) = false := decide_eq_false hc
        refine lv_iconst (v := 0) hx hb dX0_read_34 (by decide) ?_
        refine lv_istore_n (lv' := [(3, .int 0), (2, .int 0), (0, .ref (ad k)), (1, .ref (ad k2))]) hx hb dX0_read_35 rfl hl (by decide) rfl (fun ls hl => ?_)
        refine lv_aload_n hx hb dX0_read_36 rfl (lv_at hl 3 rfl) ?_
        refine lv_iload_n hx hb dX0_read_37 rfl (lv_at hl 0 rfl) ?_
        refine mx_ci (va_runV (As := [.int 0]) (rest := []) ⟨hx, hb, hml, hown, hts⟩ (c_Text_at l D ca n ad c hk2 hT 0 _) (cwV 1 hts (gV wm_226 wm_142 wm_143 wm_2 wm_144) rfl rfl rfl (by decide +kernel) ⟨Nat.le_of_ble_eq_true rfl, Nat.le_of_ble_eq_true rfl⟩) (mx_pv (C := RX2) (T := TX2) (N := 2) (ci := 2) hK hP hD hN (by omega : k2 < n) hT.cell rfl) rfl rfl hl.1 rfl (lv_room (Nat.le_of_ble_eq_true rfl)) dX0_read_38 ⟨Nat.zero_le _, Nat.zero_le _⟩) (Nat.le_refl _) hS (fun r3 c9 H locs hw hP hS => ?_)
        obtain ⟨hr3, hcE⟩ := hw
        rw [hcE] at hP
        refine mx_i (tAt t 0) (hr3.trans (tAtI_nI (i := 0) (by decide))) ?_
        refine lv_bipush (v := 48) hx hb dX0_read_41 (by decide) ?_
        refine lv_icmp_ne (tgt := 68) hx hb dX0_read_43 (by decide) (fun hc3 => ?_) (fun hc3 => ?_)
        · skip
          refine lv_aload_n hx hb dX0_read_68 rfl (lv_at hl 2 rfl) ?_
          refine lv_aload_n hx hb dX0_read_69 rfl (lv_at hl 3 rfl) ?_
          refine lv_iload_n hx hb dX0_read_70 rfl (lv_at hl 0 rfl) ?_
          refine lv_iload_n hx hb dX0_read_71 rfl (lv_at hl 1 rfl) ?_
          refine mx_ci (va_runV (As := [.ref (ad k2), .int 0, .int 0]) (rest := []) ⟨hx, hb, hml, hown, hts⟩ (c_Num_dec l D ca n ad c hk hV hk2 hT hd 0 0 rfl (by decide) false _) (cwV 3 hts (gV wm_235 wm_237 ws_8 wm_4 wm_238) rfl rfl rfl (by decide +kernel) ⟨Nat.le_of_ble_eq_true rfl, Nat.le_of_ble_eq_true rfl⟩) (mx_pv (C := RX0) (T := TX0) (N := 1) (ci := 0) hK hP hD hN hk hV rfl) rfl rfl hl.1 rfl (lv_room (Nat.le_of_ble_eq_true rfl)) dX0_read_72 ⟨Nat.zero_le _, Nat.zero_le _⟩) (Nat.le_refl _) hS (fun r5 c2 H locs hw hP hS => ?_)
          have hpn : pNum t = pDec (t.drop 0) false := by unfold pNum; rw [hfr, hmi, if_neg (by rw [tAt_drop, tAt_drop]; exact fun h => hc3 h.1)]
          rw [← hpn] at hw
          obtain rfl | rfl : r5 = 1 ∨ r5 = 0 := by rcases hw with ⟨v, h1, h2, h3⟩ | ⟨h1, h2, h3⟩; exact Or.inl h2; exact Or.inr h2
          · skip
            exact mx_zret hx hb hr hlocks rfl hP hS (hw) dX0_read_75
          · skip
            exact mx_zret hx hb hr hlocks rfl hP hS (hw) dX0_read_75
        · skip
          refine lv_aload_n hx hb dX0_read_46 rfl (lv_at hl 3 rfl) ?_
          refine lv_iload_n hx hb dX0_read_47 rfl (lv_at hl 0 rfl) ?_
          refine lv_iconst (v := 1) hx hb dX0_read_48 (by decide) ?_
          refine lv_iadd hx hb dX0_read_49 ?_
          refine mx_i (1) (rfl) ?_
          refine mx_ci (va_runV (As := [.int 1]) (rest := []) ⟨hx, hb, hml, hown, hts⟩ (c_Text_at l D ca n ad c hk2 hT 1 _) (cwV 1 hts (gV wm_226 wm_142 wm_143 wm_2 wm_144) rfl rfl rfl (by decide +kernel) ⟨Nat.le_of_ble_eq_true rfl, Nat.le_of_ble_eq_true rfl⟩) (mx_pv (C := RX2) (T := TX2) (N := 2) (ci := 2) hK hP hD hN (by omega : k2 < n) hT.cell rfl) rfl rfl hl.1 rfl (lv_room (Nat.le_of_ble_eq_true rfl)) dX0_read_50 ⟨Nat.zero_le _, Nat.zero_le _⟩) (Nat.le_refl _) hS (fun r4 c9 H locs hw hP hS => ?_)
          obtain ⟨hr4, hcE⟩ := hw
          rw [hcE] at hP
          refine mx_i (tAt t 1) (hr4.trans (tAtI_nI (i := 1) (by decide))) ?_
          refine lv_bipush (v := 120) hx hb dX0_read_53 (by decide) ?_
          refine lv_icmp_ne (tgt := 68) hx hb dX0_read_55 (by decide) (fun hc4 => ?_) (fun hc4 => ?_)
          · skip
            refine lv_aload_n hx hb dX0_read_68 rfl (lv_at hl 2 rfl) ?_
            refine lv_aload_n hx hb dX0_read_69 rfl (lv_at hl 3 rfl) ?_
            refine lv_iload_n hx hb dX0_read_70 rfl (lv_at hl 0 rfl) ?_
            refine lv_iload_n hx hb dX0_read_71 rfl (lv_at hl 1 rfl) ?_
            refine mx_ci (va_runV (As := [.ref (ad k2), .int 0, .int 0]) (rest := []) ⟨hx, hb, hml, hown, hts⟩ (c_Num_dec l D ca n ad c hk hV hk2 hT hd 0 0 rfl (by decide) false _) (cwV 3 hts (gV wm_235 wm_237 ws_8 wm_4 wm_238) rfl rfl rfl (by decide +kernel) ⟨Nat.le_of_ble_eq_true rfl, Nat.le_of_ble_eq_true rfl⟩) (mx_pv (C := RX0) (T := TX0) (N := 1) (ci := 0) hK hP hD hN hk hV rfl) rfl rfl hl.1 rfl (lv_room (Nat.le_of_ble_eq_true rfl)) dX0_read_72 ⟨Nat.zero_le _, Nat.zero_le _⟩) (Nat.le_refl _) hS (fun r5 c2 H locs hw hP hS => ?_)
            have hpn : pNum t = pDec (t.drop 0) false := by unfold pNum; rw [hfr, hmi, if_neg (by rw [tAt_drop, tAt_drop]; exact fun h => hc4 h.2)]
            rw [← hpn] at hw
            obtain rfl | rfl : r5 = 1 ∨ r5 = 0 := by rcases hw with ⟨v, h1, h2, h3⟩ | ⟨h1, h2, h3⟩; exact Or.inl h2; exact Or.inr h2
            · skip
              exact mx_zret hx hb hr hlocks rfl hP hS (hw) dX0_read_75
            · skip
              exact mx_zret hx hb hr hlocks rfl hP hS (hw) dX0_read_75
          · skip
            refine lv_aload_n hx hb dX0_read_58 rfl (lv_at hl 2 rfl) ?_
            refine lv_aload_n hx hb dX0_read_59 rfl (lv_at hl 3 rfl) ?_
            refine lv_iload_n hx hb dX0_read_60 rfl (lv_at hl 0 rfl) ?_
            refine lv_iconst (v := 2) hx hb dX0_read_61 (by decide) ?_
            refine lv_iadd hx hb dX0_read_62 ?_
            refine mx_i (2) (rfl) ?_
            refine lv_iload_n hx hb dX0_read_63 rfl (lv_at hl 1 rfl) ?_
            have hlen : 1 < t.length := by rcases Nat.lt_or_ge 1 t.length with h | h; exact h; exact absurd hc4 (by rw [show tAt t 1 = -1 from if_neg (by omega)]; decide)
            refine mx_ci (va_runV (As := [.ref (ad k2), .int 2, .int 0]) (rest := []) ⟨hx, hb, hml, hown, hts⟩ (c_Num_hex l D ca n ad c hk hV hk2 hT hd 2 2 rfl (by omega) false _) (cwV 3 hts (gV wm_227 wm_229 ws_7 wm_4 wm_230) rfl rfl rfl (by decide +kernel) ⟨Nat.le_of_ble_eq_true rfl, Nat.le_of_ble_eq_true rfl⟩) (mx_pv (C := RX0) (T := TX0) (N := 1) (ci := 0) hK hP hD hN hk hV rfl) rfl rfl hl.1 rfl (lv_room (Nat.le_of_ble_eq_true rfl)) dX0_read_64 ⟨Nat.zero_le _, Nat.zero_le _⟩) (Nat.le_refl _) hS (fun r5 c2 H locs hw hP hS => ?_)
            have hpn : pNum t = pHex (t.drop 2) false := by unfold pNum; rw [hfr, hmi, if_pos (by rw [tAt_drop, tAt_drop]; exact ⟨hc3, hc4⟩)]
            rw [← hpn] at hw
            obtain rfl | rfl : r5 = 1 ∨ r5 = 0 := by rcases hw with ⟨v, h1, h2, h3⟩ | ⟨h1, h2, h3⟩; exact Or.inl h2; exact Or.inr h2
            · skip
              exact mx_zret hx hb hr hlocks rfl hP hS (hw) dX0_read_67
            · skip
              exact mx_zret hx hb hr hlocks rfl hP hS (hw) dX0_read_67
      · skip
        have hfr : (if tAt t 0 = 45 ∨ tAt t 0 = 43 then 1 else 0) = 1 := if_pos (Or.inr hc2)
        have hmi : decide (tAt t 0 = 45) = false := decide_eq_false hc
        refine lv_iconst (v := 1) hx hb dX0_read_30 (by decide) ?_
        refine lv_goto (tgt := 35) hx hb dX0_read_31 (by decide) ?_
        refine lv_istore_n (lv' := [(3, .int 1), (2, .int 0), (0, .ref (ad k)), (1, .ref (ad k2))]) hx hb dX0_read_35 rfl hl (by decide) rfl (fun ls hl => ?_)
        refine lv_aload_n hx hb dX0_read_36 rfl (lv_at hl 3 rfl) ?_
        refine lv_iload_n hx hb dX0_read_37 rfl (lv_at hl 0 rfl) ?_
        refine mx_ci (va_runV (As := [.int 1]) (rest := []) ⟨hx, hb, hml, hown, hts⟩ (c_Text_at l D ca n ad c hk2 hT 1 _) (cwV 1 hts (gV wm_226 wm_142 wm_143 wm_2 wm_144) rfl rfl rfl (by decide +kernel) ⟨Nat.le_of_ble_eq_true rfl, Nat.le_of_ble_eq_true rfl⟩) (mx_pv (C := RX2) (T := TX2) (N := 2) (ci := 2) hK hP hD hN (by omega : k2 < n) hT.cell rfl) rfl rfl hl.1 rfl (lv_room (Nat.le_of_ble_eq_true rfl)) dX0_read_38 ⟨Nat.zero_le _, Nat.zero_le _⟩) (Nat.le_refl _) hS (fun r3 c9 H locs hw hP hS => ?_)
        obtain ⟨hr3, hcE⟩ := hw
        rw [hcE] at hP
        refine mx_i (tAt t 1) (hr3.trans (tAtI_nI (i := 1) (by decide))) ?_
        refine lv_bipush (v := 48) hx hb dX0_read_41 (by decide) ?_
        refine lv_icmp_ne (tgt := 68) hx hb dX0_read_43 (by decide) (fun hc3 => ?_) (fun hc3 => ?_)
        · skip
          refine lv_aload_n hx hb dX0_read_68 rfl (lv_at hl 2 rfl) ?_
          refine lv_aload_n hx hb dX0_read_69 rfl (lv_at hl 3 rfl) ?_
          refine lv_iload_n hx hb dX0_read_70 rfl (lv_at hl 0 rfl) ?_
          refine lv_iload_n hx hb dX0_read_71 rfl (lv_at hl 1 rfl) ?_
          refine mx_ci (va_runV (As := [.ref (ad k2), .int 1, .int 0]) (rest := []) ⟨hx, hb, hml, hown, hts⟩ (c_Num_dec l D ca n ad c hk hV hk2 hT hd 1 1 rfl (by decide) false _) (cwV 3 hts (gV wm_235 wm_237 ws_8 wm_4 wm_238) rfl rfl rfl (by decide +kernel) ⟨Nat.le_of_ble_eq_true rfl, Nat.le_of_ble_eq_true rfl⟩) (mx_pv (C := RX0) (T := TX0) (N := 1) (ci := 0) hK hP hD hN hk hV rfl) rfl rfl hl.1 rfl (lv_room (Nat.le_of_ble_eq_true rfl)) dX0_read_72 ⟨Nat.zero_le _, Nat.zero_le _⟩) (Nat.le_refl _) hS (fun r5 c2 H locs hw hP hS => ?_)
          have hpn : pNum t = pDec (t.drop 1) false := by unfold pNum; rw [hfr, hmi, if_neg (by rw [tAt_drop, tAt_drop]; exact fun h => hc3 h.1)]
          rw [← hpn] at hw
          obtain rfl | rfl : r5 = 1 ∨ r5 = 0 := by rcases hw with ⟨v, h1, h2, h3⟩ | ⟨h1, h2, h3⟩; exact Or.inl h2; exact Or.inr h2
          · skip
            exact mx_zret hx hb hr hlocks rfl hP hS (hw) dX0_read_75
          · skip
            exact mx_zret hx hb hr hlocks rfl hP hS (hw) dX0_read_75
        · skip
          refine lv_aload_n hx hb dX0_read_46 rfl (lv_at hl 3 rfl) ?_
          refine lv_iload_n hx hb dX0_read_47 rfl (lv_at hl 0 rfl) ?_
          refine lv_iconst (v := 1) hx hb dX0_read_48 (by decide) ?_
          refine lv_iadd hx hb dX0_read_49 ?_
          refine mx_i (2) (rfl) ?_
          refine mx_ci (va_runV (As := [.int 2]) (rest := []) ⟨hx, hb, hml, hown, hts⟩ (c_Text_at l D ca n ad c hk2 hT 2 _) (cwV 1 hts (gV wm_226 wm_142 wm_143 wm_2 wm_144) rfl rfl rfl (by decide +kernel) ⟨Nat.le_of_ble_eq_true rfl, Nat.le_of_ble_eq_true rfl⟩) (mx_pv (C := RX2) (T := TX2) (N := 2) (ci := 2) hK hP hD hN (by omega : k2 < n) hT.cell rfl) rfl rfl hl.1 rfl (lv_room (Nat.le_of_ble_eq_true rfl)) dX0_read_50 ⟨Nat.zero_le _, Nat.zero_le _⟩) (Nat.le_refl _) hS (fun r4 c9 H locs hw hP hS => ?_)
          obtain ⟨hr4, hcE⟩ := hw
          rw [hcE] at hP
          refine mx_i (tAt t 2) (hr4.trans (tAtI_nI (i := 2) (by decide))) ?_
          refine lv_bipush (v := 120) hx hb dX0_read_53 (by decide) ?_
          refine lv_icmp_ne (tgt := 68) hx hb dX0_read_55 (by decide) (fun hc4 => ?_) (fun hc4 => ?_)
          · skip
            refine lv_aload_n hx hb dX0_read_68 rfl (lv_at hl 2 rfl) ?_
            refine lv_aload_n hx hb dX0_read_69 rfl (lv_at hl 3 rfl) ?_
            refine lv_iload_n hx hb dX0_read_70 rfl (lv_at hl 0 rfl) ?_
            refine lv_iload_n hx hb dX0_read_71 rfl (lv_at hl 1 rfl) ?_
            refine mx_ci (va_runV (As := [.ref (ad k2), .int 1, .int 0]) (rest := []) ⟨hx, hb, hml, hown, hts⟩ (c_Num_dec l D ca n ad c hk hV hk2 hT hd 1 1 rfl (by decide) false _) (cwV 3 hts (gV wm_235 wm_237 ws_8 wm_4 wm_238) rfl rfl rfl (by decide +kernel) ⟨Nat.le_of_ble_eq_true rfl, Nat.le_of_ble_eq_true rfl⟩) (mx_pv (C := RX0) (T := TX0) (N := 1) (ci := 0) hK hP hD hN hk hV rfl) rfl rfl hl.1 rfl (lv_room (Nat.le_of_ble_eq_true rfl)) dX0_read_72 ⟨Nat.zero_le _, Nat.zero_le _⟩) (Nat.le_refl _) hS (fun r5 c2 H locs hw hP hS => ?_)
            have hpn : pNum t = pDec (t.drop 1) false := by unfold pNum; rw [hfr, hmi, if_neg (by rw [tAt_drop, tAt_drop]; exact fun h => hc4 h.2)]
            rw [← hpn] at hw
            obtain rfl | rfl : r5 = 1 ∨ r5 = 0 := by rcases hw with ⟨v, h1, h2, h3⟩ | ⟨h1, h2, h3⟩; exact Or.inl h2; exact Or.inr h2
            · skip
              exact mx_zret hx hb hr hlocks rfl hP hS (hw) dX0_read_75
            · skip
              exact mx_zret hx hb hr hlocks rfl hP hS (hw) dX0_read_75
          · skip
            refine lv_aload_n hx hb dX0_read_58 rfl (lv_at hl 2 rfl) ?_
            refine lv_aload_n hx hb dX0_read_59 rfl (lv_at hl 3 rfl) ?_
            refine lv_iload_n hx hb dX0_read_60 rfl (lv_at hl 0 rfl) ?_
            refine lv_iconst (v := 2) hx hb dX0_read_61 (by decide) ?_
            refine lv_iadd hx hb dX0_read_62 ?_
            refine mx_i (3) (rfl) ?_
            refine lv_iload_n hx hb dX0_read_63 rfl (lv_at hl 1 rfl) ?_
            have hlen : 2 < t.length := by rcases Nat.lt_or_ge 2 t.length with h | h; exact h; exact absurd hc4 (by rw [show tAt t 2 = -1 from if_neg (by omega)]; decide)
            refine mx_ci (va_runV (As := [.ref (ad k2), .int 3, .int 0]) (rest := []) ⟨hx, hb, hml, hown, hts⟩ (c_Num_hex l D ca n ad c hk hV hk2 hT hd 3 3 rfl (by omega) false _) (cwV 3 hts (gV wm_227 wm_229 ws_7 wm_4 wm_230) rfl rfl rfl (by decide +kernel) ⟨Nat.le_of_ble_eq_true rfl, Nat.le_of_ble_eq_true rfl⟩) (mx_pv (C := RX0) (T := TX0) (N := 1) (ci := 0) hK hP hD hN hk hV rfl) rfl rfl hl.1 rfl (lv_room (Nat.le_of_ble_eq_true rfl)) dX0_read_64 ⟨Nat.zero_le _, Nat.zero_le _⟩) (Nat.le_refl _) hS (fun r5 c2 H locs hw hP hS => ?_)
            have hpn : pNum t = pHex (t.drop 3) false := by unfold pNum; rw [hfr, hmi, if_pos (by rw [tAt_drop, tAt_drop]; exact ⟨hc3, hc4⟩)]
            rw [← hpn] at hw
            obtain rfl | rfl : r5 = 1 ∨ r5 = 0 := by rcases hw with ⟨v, h1, h2, h3⟩ | ⟨h1, h2, h3⟩; exact Or.inl h2; exact Or.inr h2
            · skip
              exact mx_zret hx hb hr hlocks rfl hP hS (hw) dX0_read_67
            · skip
              exact mx_zret hx hb hr hlocks rfl hP hS (hw) dX0_read_67
  · skip
    refine lv_iconst (v := 1) hx hb dX0_read_10 (by decide) ?_
    refine lv_goto (tgt := 15) hx hb dX0_read_11 (by decide) ?_
    refine lv_istore_n (lv' := [(2, .int 1), (0, .ref (ad k)), (1, .ref (ad k2))]) hx hb dX0_read_15 rfl hl (by decide) rfl (fun ls hl => ?_)
    refine lv_iload_n hx hb dX0_read_16 rfl (lv_at hl 0 rfl) ?_
    refine lv_if_ne (tgt := 30) hx hb dX0_read_17 (by decide) (fun hc9 => ?_) (fun hc9 => ?_)
    · skip
      have hfr : (if tAt t 0 = 45 ∨ tAt t 0 = 43 then 1 else 0) = 1 := if_pos (Or.inl hc)
      have hmi : decide (tAt t 0 = 45) = true := decide_eq_true hc
      refine lv_iconst (v := 1) hx hb dX0_read_30 (by decide) ?_
      refine lv_goto (tgt := 35) hx hb dX0_read_31 (by decide) ?_
      refine lv_istore_n (lv' := [(3, .int 1), (2, .int 1), (0, .ref (ad k)), (1, .ref (ad k2))]) hx hb dX0_read_35 rfl hl (by decide) rfl (fun ls hl => ?_)
      refine lv_aload_n hx hb dX0_read_36 rfl (lv_at hl 3 rfl) ?_
      refine lv_iload_n hx hb dX0_read_37 rfl (lv_at hl 0 rfl) ?_
      refine mx_ci (va_runV (As := [.int 1]) (rest := []) ⟨hx, hb, hml, hown, hts⟩ (c_Text_at l D ca n ad c hk2 hT 1 _) (cwV 1 hts (gV wm_226 wm_142 wm_143 wm_2 wm_144) rfl rfl rfl (by decide +kernel) ⟨Nat.le_of_ble_eq_true rfl, Nat.le_of_ble_eq_true rfl⟩) (mx_pv (C := RX2) (T := TX2) (N := 2) (ci := 2) hK hP hD hN (by omega : k2 < n) hT.cell rfl) rfl rfl hl.1 rfl (lv_room (Nat.le_of_ble_eq_true rfl)) dX0_read_38 ⟨Nat.zero_le _, Nat.zero_le _⟩) (Nat.le_refl _) hS (fun r3 c9 H locs hw hP hS => ?_)
      obtain ⟨hr3, hcE⟩ := hw
      rw [hcE] at hP
      refine mx_i (tAt t 1) (hr3.trans (tAtI_nI (i := 1) (by decide))) ?_
      refine lv_bipush (v := 48) hx hb dX0_read_41 (by decide) ?_
      refine lv_icmp_ne (tgt := 68) hx hb dX0_read_43 (by decide) (fun hc3 => ?_) (fun hc3 => ?_)
      · skip
        refine lv_aload_n hx hb dX0_read_68 rfl (lv_at hl 2 rfl) ?_
        refine lv_aload_n hx hb dX0_read_69 rfl (lv_at hl 3 rfl) ?_
        refine lv_iload_n hx hb dX0_read_70 rfl (lv_at hl 0 rfl) ?_
        refine lv_iload_n hx hb dX0_read_71 rfl (lv_at hl 1 rfl) ?_
        refine mx_ci (va_runV (As := [.ref (ad k2), .int 1, .int 1]) (rest := []) ⟨hx, hb, hml, hown, hts⟩ (c_Num_dec l D ca n ad c hk hV hk2 hT hd 1 1 rfl (by decide) true _) (cwV 3 hts (gV wm_235 wm_237 ws_8 wm_4 wm_238) rfl rfl rfl (by decide +kernel) ⟨Nat.le_of_ble_eq_true rfl, Nat.le_of_ble_eq_true rfl⟩) (mx_pv (C := RX0) (T := TX0) (N := 1) (ci := 0) hK hP hD hN hk hV rfl) rfl rfl hl.1 rfl (lv_room (Nat.le_of_ble_eq_true rfl)) dX0_read_72 ⟨Nat.zero_le _, Nat.zero_le _⟩) (Nat.le_refl _) hS (fun r5 c2 H locs hw hP hS => ?_)
        have hpn : pNum t = pDec (t.drop 1) true := by unfold pNum; rw [hfr, hmi, if_neg (by rw [tAt_drop, tAt_drop]; exact fun h => hc3 h.1)]
        rw [← hpn] at hw
        obtain rfl | rfl : r5 = 1 ∨ r5 = 0 := by rcases hw with ⟨v, h1, h2, h3⟩ | ⟨h1, h2, h3⟩; exact Or.inl h2; exact Or.inr h2
        · skip
          exact mx_zret hx hb hr hlocks rfl hP hS (hw) dX0_read_75
        · skip
          exact mx_zret hx hb hr hlocks rfl hP hS (hw) dX0_read_75
      · skip
        refine lv_aload_n hx hb dX0_read_46 rfl (lv_at hl 3 rfl) ?_
        refine lv_iload_n hx hb dX0_read_47 rfl (lv_at hl 0 rfl) ?_
        refine lv_iconst (v := 1) hx hb dX0_read_48 (by decide) ?_
        refine lv_iadd hx hb dX0_read_49 ?_
        refine mx_i (2) (rfl) ?_
        refine mx_ci (va_runV (As := [.int 2]) (rest := []) ⟨hx, hb, hml, hown, hts⟩ (c_Text_at l D ca n ad c hk2 hT 2 _) (cwV 1 hts (gV wm_226 wm_142 wm_143 wm_2 wm_144) rfl rfl rfl (by decide +kernel) ⟨Nat.le_of_ble_eq_true rfl, Nat.le_of_ble_eq_true rfl⟩) (mx_pv (C := RX2) (T := TX2) (N := 2) (ci := 2) hK hP hD hN (by omega : k2 < n) hT.cell rfl) rfl rfl hl.1 rfl (lv_room (Nat.le_of_ble_eq_true rfl)) dX0_read_50 ⟨Nat.zero_le _, Nat.zero_le _⟩) (Nat.le_refl _) hS (fun r4 c9 H locs hw hP hS => ?_)
        obtain ⟨hr4, hcE⟩ := hw
        rw [hcE] at hP
        refine mx_i (tAt t 2) (hr4.trans (tAtI_nI (i := 2) (by decide))) ?_
        refine lv_bipush (v := 120) hx hb dX0_read_53 (by decide) ?_
        refine lv_icmp_ne (tgt := 68) hx hb dX0_read_55 (by decide) (fun hc4 => ?_) (fun hc4 => ?_)
        · skip
          refine lv_aload_n hx hb dX0_read_68 rfl (lv_at hl 2 rfl) ?_
          refine lv_aload_n hx hb dX0_read_69 rfl (lv_at hl 3 rfl) ?_
          refine lv_iload_n hx hb dX0_read_70 rfl (lv_at hl 0 rfl) ?_
          refine lv_iload_n hx hb dX0_read_71 rfl (lv_at hl 1 rfl) ?_
          refine mx_ci (va_runV (As := [.ref (ad k2), .int 1, .int 1]) (rest := []) ⟨hx, hb, hml, hown, hts⟩ (c_Num_dec l D ca n ad c hk hV hk2 hT hd 1 1 rfl (by decide) true _) (cwV 3 hts (gV wm_235 wm_237 ws_8 wm_4 wm_238) rfl rfl rfl (by decide +kernel) ⟨Nat.le_of_ble_eq_true rfl, Nat.le_of_ble_eq_true rfl⟩) (mx_pv (C := RX0) (T := TX0) (N := 1) (ci := 0) hK hP hD hN hk hV rfl) rfl rfl hl.1 rfl (lv_room (Nat.le_of_ble_eq_true rfl)) dX0_read_72 ⟨Nat.zero_le _, Nat.zero_le _⟩) (Nat.le_refl _) hS (fun r5 c2 H locs hw hP hS => ?_)
          have hpn : pNum t = pDec (t.drop 1) true := by unfold pNum; rw [hfr, hmi, if_neg (by rw [tAt_drop, tAt_drop]; exact fun h => hc4 h.2)]
          rw [← hpn] at hw
          obtain rfl | rfl : r5 = 1 ∨ r5 = 0 := by rcases hw with ⟨v, h1, h2, h3⟩ | ⟨h1, h2, h3⟩; exact Or.inl h2; exact Or.inr h2
          · skip
            exact mx_zret hx hb hr hlocks rfl hP hS (hw) dX0_read_75
          · skip
            exact mx_zret hx hb hr hlocks rfl hP hS (hw) dX0_read_75
        · skip
          refine lv_aload_n hx hb dX0_read_58 rfl (lv_at hl 2 rfl) ?_
          refine lv_aload_n hx hb dX0_read_59 rfl (lv_at hl 3 rfl) ?_
          refine lv_iload_n hx hb dX0_read_60 rfl (lv_at hl 0 rfl) ?_
          refine lv_iconst (v := 2) hx hb dX0_read_61 (by decide) ?_
          refine lv_iadd hx hb dX0_read_62 ?_
          refine mx_i (3) (rfl) ?_
          refine lv_iload_n hx hb dX0_read_63 rfl (lv_at hl 1 rfl) ?_
          have hlen : 2 < t.length := by rcases Nat.lt_or_ge 2 t.length with h | h; exact h; exact absurd hc4 (by rw [show tAt t 2 = -1 from if_neg (by omega)]; decide)
          refine mx_ci (va_runV (As := [.ref (ad k2), .int 3, .int 1]) (rest := []) ⟨hx, hb, hml, hown, hts⟩ (c_Num_hex l D ca n ad c hk hV hk2 hT hd 3 3 rfl (by omega) true _) (cwV 3 hts (gV wm_227 wm_229 ws_7 wm_4 wm_230) rfl rfl rfl (by decide +kernel) ⟨Nat.le_of_ble_eq_true rfl, Nat.le_of_ble_eq_true rfl⟩) (mx_pv (C := RX0) (T := TX0) (N := 1) (ci := 0) hK hP hD hN hk hV rfl) rfl rfl hl.1 rfl (lv_room (Nat.le_of_ble_eq_true rfl)) dX0_read_64 ⟨Nat.zero_le _, Nat.zero_le _⟩) (Nat.le_refl _) hS (fun r5 c2 H locs hw hP hS => ?_)
          have hpn : pNum t = pHex (t.drop 3) true := by unfold pNum; rw [hfr, hmi, if_pos (by rw [tAt_drop, tAt_drop]; exact ⟨hc3, hc4⟩)]
          rw [← hpn] at hw
          obtain rfl | rfl : r5 = 1 ∨ r5 = 0 := by rcases hw with ⟨v, h1, h2, h3⟩ | ⟨h1, h2, h3⟩; exact Or.inl h2; exact Or.inr h2
          · skip
            exact mx_zret hx hb hr hlocks rfl hP hS (hw) dX0_read_67
          · skip
            exact mx_zret hx hb hr hlocks rfl hP hS (hw) dX0_read_67
    · skip
      exact absurd hc9 (by decide)
end
section
set_option maxHeartbeats 4000000 in
set_option maxRecDepth 100000 in
/-- feed -/
theorem c_feed (l : Launch) (D : va_G) (ca : Nat → ClassId) (n : Nat) (ad : Nat → Nat) (c : Nat → va_E) {tp pt md dg : List Nat} {ar : Nat → List Nat} {ac tk : Nat} {f : fl4} {w kd bh : Int32} {v : Int64} (hn : 52 ≤ n) (hM : tMF ca ad c tp pt md ar ac tk f w kd bh v dg) (a b x d e : Int32) : mInt l yX3_feed wsX3_feed ({ frames := 2, cells := 0, slots := 0, locals := 42 }) [.ref (ad 0), .int a, .int b, .int x, .int d, .int e] D (tTY ca) n ad c (fun r c' => (tp.length + 20 ≤ 400 ∧ r = 1 ∧ tMF ca ad c' (tp ++ tFour a ++ tFour b ++ tFour x ++ tFour d ++ tFour e) pt md ar ac tk f w kd bh v dg ∧ tSm c c' 1) ∨ (¬ tp.length + 20 ≤ 400 ∧ r = 0 ∧ c' = c)) := by
  intro sz
  refine Met.ofW (cc := cX3_feed) (maxL := 6) (ret := (some .boolean)) (by decide) rfl ?_
  intro pg9 ev9 s m args below meth cd s₁ B hml hv
  obtain ⟨rfl, hsz, hP, hK, hD0, hN⟩ := hv
  have hx := B.exec
  have hb := B.bytes
  have hr := B.returns
  have hts := fun (w : Cond) (h : w ∈ WSa) => atoms_spec (ws := wsX3_feed) B.pre w (List.mem_cons_of_mem _ h)
  have hown : s.vm.findClass RX3 = some m.cls := findClass_of_methodNamed B.named
  have hlocks := B.notSynchronized
  subst hsz
  have hD : ∀ c, va_D (fun _ => True) (mw n ad c) := fun c' => mw_D hD0 c'
  have hS : va_S (mA n ad s.heap.size) s.heap s.heap [] := va_S.rf
  have hl := lv_entry ([.ref (ad 0), .int a, .int b, .int x, .int d, .int e]) (n := 6) (Nat.le_of_ble_eq_true rfl)
  rw [lg_entry_eq]
  generalize (lg_sl ([.ref (ad 0), .int a, .int b, .int x, .int d, .int e]) ++ List.replicate (6 - (lg_sl ([.ref (ad 0), .int a, .int b, .int x, .int d, .int e])).length) Slot.unset).toArray = ls at hl ⊢
  have hl : lv_has ls 6 [(0, .ref (ad 0)), (1, .int a), (2, .int b), (3, .int x), (4, .int d), (5, .int e)] := hl
  refine lv_aload_n hx hb dX3_feed_0 rfl (lv_at hl 0 rfl) ?_
  refine mx_get (ci := 3) (v := .ref (ad 1)) (C := RX3) (T := TX3) (N := 9) hx hb hts inX3 hown hK hP (by omega : 0 < n) hM.1 rfl 0 (by decide) (hts _ wm_77) (fun _ h9 => h9) rfl dX3_feed_1 ?_
  refine lv_bipush (v := 20) hx hb dX3_feed_4 (by decide) ?_
  have hle1 := hM.2.1.le
  refine mx_ci (va_runV (As := [.int 20]) (rest := []) ⟨hx, hb, hml, hown, hts⟩ (c_Text_has l D ca n ad c (k := 1) (by omega) hM.2.1 20 _) (cwV 1 hts (gV wm_109 wm_110 wm_111 wm_2 wm_112) rfl rfl rfl (by decide +kernel) ⟨Nat.le_of_ble_eq_true rfl, Nat.le_of_ble_eq_true rfl⟩) (mx_pv (C := RX2) (T := TX2) (N := 2) (ci := 2) hK hP hD hN (by omega : 1 < n) hM.2.1.cell rfl) rfl rfl hl.1 rfl (lv_room (Nat.le_of_ble_eq_true rfl)) dX3_feed_6 ⟨Nat.zero_le _, Nat.zero_le _⟩) (Nat.le_refl _) hS (fun r c1 H locs hw hP hS => ?_)
  obtain ⟨hcE, hw⟩ := hw
  rw [hcE] at hP
  refine lv_if_ne (tgt := 14) hx hb dX3_feed_9 (by decide) (fun hc => ?_) (fun hc => ?_)
  · skip
    have hroom : tp.length + 20 ≤ 400 := by rcases hw with h | h; have := (nI_leI (a := 20) (by omega) (by omega)).mp h.1; omega; exact absurd h.2 hc
    refine lv_aload_n hx hb dX3_feed_14 rfl (lv_at hl 0 rfl) ?_
    refine mx_get (ci := 3) (v := .ref (ad 1)) (C := RX3) (T := TX3) (N := 9) hx hb hts inX3 hown hK hP (by omega : 0 < n) hM.1 rfl 0 (by decide) (hts _ wm_77) (fun _ h9 => h9) rfl dX3_feed_15 ?_
    refine lv_iload_n hx hb dX3_feed_18 rfl (lv_at hl 1 rfl) ?_
    refine mx_cv (va_runV (As := [.int a]) (rest := []) ⟨hx, hb, hml, hown, hts⟩ (c_Text_four l D ca n ad c (k := 1) (by omega) hM.2.1 (by (try simp only [List.length_append, tFour_len]); omega) a _) (cwV 1 hts (gV wm_113 wm_114 wm_115 wm_2 wm_116) rfl rfl rfl (by decide +kernel) ⟨Nat.le_of_ble_eq_true rfl, Nat.le_of_ble_eq_true rfl⟩) (mx_pv (C := RX2) (T := TX2) (N := 2) (ci := 2) hK hP hD hN (by omega : 1 < n) hM.2.1.cell rfl) rfl rfl hl.1 rfl (lv_room (Nat.le_of_ble_eq_true rfl)) dX3_feed_19 ⟨Nat.zero_le _, Nat.zero_le _⟩) (Nat.le_refl _) hS (fun c1 H locs hw0 hP hS => ?_)
    obtain ⟨hs1, hT1⟩ := hw0
    have hM1 := hM.tape hs1 hT1
    refine lv_aload_n hx hb dX3_feed_22 rfl (lv_at hl 0 rfl) ?_
    refine mx_get (ci := 3) (v := .ref (ad 1)) (C := RX3) (T := TX3) (N := 9) hx hb hts inX3 hown hK hP (by omega : 0 < n) hM1.1 rfl 0 (by decide) (hts _ wm_77) (fun _ h9 => h9) rfl dX3_feed_23 ?_
    refine lv_iload_n hx hb dX3_feed_26 rfl (lv_at hl 2 rfl) ?_
    refine mx_cv (va_runV (As := [.int b]) (rest := []) ⟨hx, hb, hml, hown, hts⟩ (c_Text_four l D ca n ad c1 (k := 1) (by omega) hT1 (by (try simp only [List.length_append, tFour_len]); omega) b _) (cwV 1 hts (gV wm_113 wm_114 wm_115 wm_2 wm_116) rfl rfl rfl (by decide +kernel) ⟨Nat.le_of_ble_eq_true rfl, Nat.le_of_ble_eq_true rfl⟩) (mx_pv (C := RX2) (T := TX2) (N := 2) (ci := 2) hK hP hD hN (by omega : 1 < n) hM1.2.1.cell rfl) rfl rfl hl.1 rfl (lv_room (Nat.le_of_ble_eq_true rfl)) dX3_feed_27 ⟨Nat.zero_le _, Nat.zero_le _⟩) (Nat.le_refl _) hS (fun c2 H locs hw1 hP hS => ?_)
    obtain ⟨hs2, hT2⟩ := hw1
    have hM2 := hM1.tape hs2 hT2
    refine lv_aload_n hx hb dX3_feed_30 rfl (lv_at hl 0 rfl) ?_
    refine mx_get (ci := 3) (v := .ref (ad 1)) (C := RX3) (T := TX3) (N := 9) hx hb hts inX3 hown hK hP (by omega : 0 < n) hM2.1 rfl 0 (by decide) (hts _ wm_77) (fun _ h9 => h9) rfl dX3_feed_31 ?_
    refine lv_iload_n hx hb dX3_feed_34 rfl (lv_at hl 3 rfl) ?_
    refine mx_cv (va_runV (As := [.int x]) (rest := []) ⟨hx, hb, hml, hown, hts⟩ (c_Text_four l D ca n ad c2 (k := 1) (by omega) hT2 (by (try simp only [List.length_append, tFour_len]); omega) x _) (cwV 1 hts (gV wm_113 wm_114 wm_115 wm_2 wm_116) rfl rfl rfl (by decide +kernel) ⟨Nat.le_of_ble_eq_true rfl, Nat.le_of_ble_eq_true rfl⟩) (mx_pv (C := RX2) (T := TX2) (N := 2) (ci := 2) hK hP hD hN (by omega : 1 < n) hM2.2.1.cell rfl) rfl rfl hl.1 rfl (lv_room (Nat.le_of_ble_eq_true rfl)) dX3_feed_35 ⟨Nat.zero_le _, Nat.zero_le _⟩) (Nat.le_refl _) hS (fun c3 H locs hw2 hP hS => ?_)
    obtain ⟨hs3, hT3⟩ := hw2
    have hM3 := hM2.tape hs3 hT3
    refine lv_aload_n hx hb dX3_feed_38 rfl (lv_at hl 0 rfl) ?_
    refine mx_get (ci := 3) (v := .ref (ad 1)) (C := RX3) (T := TX3) (N := 9) hx hb hts inX3 hown hK hP (by omega : 0 < n) hM3.1 rfl 0 (by decide) (hts _ wm_77) (fun _ h9 => h9) rfl dX3_feed_39 ?_
    refine lv_iload hx hb dX3_feed_42 (lv_at hl 4 rfl) ?_
    refine mx_cv (va_runV (As := [.int d]) (rest := []) ⟨hx, hb, hml, hown, hts⟩ (c_Text_four l D ca n ad c3 (k := 1) (by omega) hT3 (by (try simp only [List.length_append, tFour_len]); omega) d _) (cwV 1 hts (gV wm_113 wm_114 wm_115 wm_2 wm_116) rfl rfl rfl (by decide +kernel) ⟨Nat.le_of_ble_eq_true rfl, Nat.le_of_ble_eq_true rfl⟩) (mx_pv (C := RX2) (T := TX2) (N := 2) (ci := 2) hK hP hD hN (by omega : 1 < n) hM3.2.1.cell rfl) rfl rfl hl.1 rfl (lv_room (Nat.le_of_ble_eq_true rfl)) dX3_feed_44 ⟨Nat.zero_le _, Nat.zero_le _⟩) (Nat.le_refl _) hS (fun c4 H locs hw3 hP hS => ?_)
    obtain ⟨hs4, hT4⟩ := hw3
    have hM4 := hM3.tape hs4 hT4
    refine lv_aload_n hx hb dX3_feed_47 rfl (lv_at hl 0 rfl) ?_
    refine mx_get (ci := 3) (v := .ref (ad 1)) (C := RX3) (T := TX3) (N := 9) hx hb hts inX3 hown hK hP (by omega : 0 < n) hM4.1 rfl 0 (by decide) (hts _ wm_77) (fun _ h9 => h9) rfl dX3_feed_48 ?_
    refine lv_iload hx hb dX3_feed_51 (lv_at hl 5 rfl) ?_
    refine mx_cv (va_runV (As := [.int e]) (rest := []) ⟨hx, hb, hml, hown, hts⟩ (c_Text_four l D ca n ad c4 (k := 1) (by omega) hT4 (by (try simp only [List.length_append, tFour_len]); omega) e _) (cwV 1 hts (gV wm_113 wm_114 wm_115 wm_2 wm_116) rfl rfl rfl (by decide +kernel) ⟨Nat.le_of_ble_eq_true rfl, Nat.le_of_ble_eq_true rfl⟩) (mx_pv (C := RX2) (T := TX2) (N := 2) (ci := 2) hK hP hD hN (by omega : 1 < n) hM4.2.1.cell rfl) rfl rfl hl.1 rfl (lv_room (Nat.le_of_ble_eq_true rfl)) dX3_feed_53 ⟨Nat.zero_le _, Nat.zero_le _⟩) (Nat.le_refl _) hS (fun c5 H locs hw4 hP hS => ?_)
    obtain ⟨hs5, hT5⟩ := hw4
    have hM5 := hM4.tape hs5 hT5
    refine lv_iconst (v := 1) hx hb dX3_feed_56 (by decide) ?_
    exact mx_zret hx hb hr hlocks rfl hP hS (Or.inl ⟨hroom, rfl, hM5, (((hs1.tr hs2).tr hs3).tr hs4).tr hs5⟩) dX3_feed_57
  · skip
    have hroom : ¬ tp.length + 20 ≤ 400 := by rcases hw with h | h; exact absurd (h.2.symm.trans hc) (by decide); have := (nI_ltI (b := 20) (by omega) (by omega)).mp h.1; omega
    refine lv_iconst (v := 0) hx hb dX3_feed_12 (by decide) ?_
    exact mx_zret hx hb hr hlocks rfl hP hS (Or.inr ⟨hroom, rfl, rfl⟩) dX3_feed_13
set_option maxHeartbeats 4000000 in
set_option maxRecDepth 100000 in
/-- end -/
theorem c_end (l : Launch) (D : va_G) (ca : Nat → ClassId) (n : Nat) (ad : Nat → Nat) (c : Nat → va_E) {tp pt md dg : List Nat} {ar : Nat → List Nat} {ac tk : Nat} {f : fl4} {w kd bh : Int32} {v : Int64} (hn : 52 ≤ n) (hM : tMF ca ad c tp pt md ar ac tk f w kd bh v dg) (x : Int32) : mInt l yX3_end wsX3_end ({ frames := 1, cells := 0, slots := 0, locals := 21 }) [.ref (ad 0), .int x] D (tTY ca) n ad c (fun r c' => ((x < 0 ∨ nI tp.length < x) ∧ r = 0 ∧ c' = c) ∨ ∃ j, j ≤ tp.length ∧ x = nI j ∧ r = 1 ∧ tMF ca ad c' (tp.take j) pt md ar ac tk f w kd bh v dg ∧ tSm c c' 1) := by
  intro sz
  refine Met.ofW (cc := cX3_end) (maxL := 2) (ret := (some .boolean)) (by decide) rfl ?_
  intro pg9 ev9 s m args below meth cd s₁ B hml hv
  obtain ⟨rfl, hsz, hP, hK, hD0, hN⟩ := hv
  have hx := B.exec
  have hb := B.bytes
  have hr := B.returns
  have hts := fun (w : Cond) (h : w ∈ WSa) => atoms_spec (ws := wsX3_end) B.pre w (List.mem_cons_of_mem _ h)
  have hown : s.vm.findClass RX3 = some m.cls := findClass_of_methodNamed B.named
  have hlocks := B.notSynchronized
  subst hsz
  have hD : ∀ c, va_D (fun _ => True) (mw n ad c) := fun c' => mw_D hD0 c'
  have hS : va_S (mA n ad s.heap.size) s.heap s.heap [] := va_S.rf
  have hl := lv_entry ([.ref (ad 0), .int x]) (n := 2) (Nat.le_of_ble_eq_true rfl)
  rw [lg_entry_eq]
  generalize (lg_sl ([.ref (ad 0), .int x]) ++ List.replicate (2 - (lg_sl ([.ref (ad 0), .int x])).length) Slot.unset).toArray = ls at hl ⊢
  have hl : lv_has ls 2 [(0, .ref (ad 0)), (1, .int x)] := hl
  refine lv_aload_n hx hb dX3_end_0 rfl (lv_at hl 0 rfl) ?_
  refine mx_get (ci := 3) (v := .ref (ad 1)) (C := RX3) (T := TX3) (N := 9) hx hb hts inX3 hown hK hP (by omega : 0 < n) hM.1 rfl 0 (by decide) (hts _ wm_77) (fun _ h9 => h9) rfl dX3_end_1 ?_
  refine lv_iload_n hx hb dX3_end_4 rfl (lv_at hl 1 rfl) ?_
  refine mx_ci (va_runV (As := [.int x]) (rest := []) ⟨hx, hb, hml, hown, hts⟩ (c_Text_shorten l D ca n ad c (k := 1) (by omega) hM.2.1 x _) (cwV 1 hts (gV wm_125 wm_126 wm_127 wm_2 wm_128) rfl rfl rfl (by decide +kernel) ⟨Nat.le_of_ble_eq_true rfl, Nat.le_of_ble_eq_true rfl⟩) (mx_pv (C := RX2) (T := TX2) (N := 2) (ci := 2) hK hP hD hN (by omega : 1 < n) hM.2.1.cell rfl) rfl rfl hl.1 rfl (lv_room (Nat.le_of_ble_eq_true rfl)) dX3_end_5 ⟨Nat.zero_le _, Nat.zero_le _⟩) (Nat.le_refl _) hS (fun r c1 H locs hw hP hS => ?_)
  have hq : ((x < 0 ∨ nI tp.length < x) ∧ r = 0 ∧ c1 = c) ∨ ∃ j, j ≤ tp.length ∧ x = nI j ∧ r = 1 ∧ tMF ca ad c1 (tp.take j) pt md ar ac tk f w kd bh v dg ∧ tSm c c1 1 := by
    rcases hw with h | ⟨j, h1, h2, h3, h4, h5⟩
    · exact Or.inl h
    · exact Or.inr ⟨j, h1, h2, h3, hM.tape h4 h5, h4⟩
  obtain rfl | rfl : r = 0 ∨ r = 1 := by rcases hq with h | ⟨j, h1, h2, h3, h4⟩; exact Or.inl h.2.1; exact Or.inr h3
  · skip
    exact mx_zret hx hb hr hlocks rfl hP hS (hq) dX3_end_8
  · skip
    exact mx_zret hx hb hr hlocks rfl hP hS (hq) dX3_end_8
set_option maxHeartbeats 4000000 in
set_option maxRecDepth 100000 in
/-- format -/
theorem c_format (l : Launch) (D : va_G) (ca : Nat → ClassId) (n : Nat) (ad : Nat → Nat) (c : Nat → va_E) {tp pt md dg : List Nat} {ar : Nat → List Nat} {ac tk : Nat} {f : fl4} {w kd bh : Int32} {v : Int64} (hn : 52 ≤ n) (hM : tMF ca ad c tp pt md ar ac tk f w kd bh v dg) : mInt l yX3_format wsX3_format ({ frames := 2, cells := 0, slots := 0, locals := 44 }) [.ref (ad 0)] D (tTY ca) n ad c (fun r c' => r = nI tp.length ∧ tMF ca ad c' [] tp md ar ac tk f w kd bh v dg ∧ ∀ j, 52 ≤ j → c' j = c j) := by
  intro sz
  refine Met.ofW (cc := cX3_format) (maxL := 1) (ret := (some .int)) (by decide) rfl ?_
  intro pg9 ev9 s m args below meth cd s₁ B hml hv
  obtain ⟨rfl, hsz, hP, hK, hD0, hN⟩ := hv
  have hx := B.exec
  have hb := B.bytes
  have hr := B.returns
  have hts := fun (w : Cond) (h : w ∈ WSa) => atoms_spec (ws := wsX3_format) B.pre w (List.mem_cons_of_mem _ h)
  have hown : s.vm.findClass RX3 = some m.cls := findClass_of_methodNamed B.named
  have hlocks := B.notSynchronized
  subst hsz
  have hD : ∀ c, va_D (fun _ => True) (mw n ad c) := fun c' => mw_D hD0 c'
  have hS : va_S (mA n ad s.heap.size) s.heap s.heap [] := va_S.rf
  have hl := lv_entry ([.ref (ad 0)]) (n := 1) (Nat.le_of_ble_eq_true rfl)
  rw [lg_entry_eq]
  generalize (lg_sl ([.ref (ad 0)]) ++ List.replicate (1 - (lg_sl ([.ref (ad 0)])).length) Slot.unset).toArray = ls at hl ⊢
  have hl : lv_has ls 1 [(0, .ref (ad 0))] := hl
  have hle1 := hM.2.1.le
  refine lv_aload_n hx hb dX3_format_0 rfl (lv_at hl 0 rfl) ?_
  refine mx_get (ci := 3) (v := .ref (ad 3)) (C := RX3) (T := TX3) (N := 9) hx hb hts inX3 hown hK hP (by omega : 0 < n) hM.1 rfl 1 (by decide) (hts _ wm_78) (fun _ h9 => h9) rfl dX3_format_1 ?_
  refine mx_cv (va_runV (As := []) (rest := []) ⟨hx, hb, hml, hown, hts⟩ (c_Text_empty l D ca n ad c (k := 3) (by omega) hM.2.2.1 _) (cwV 0 hts (gV wm_133 wm_134 wm_135 wm_2 wm_136) rfl rfl rfl (by decide +kernel) ⟨Nat.le_of_ble_eq_true rfl, Nat.le_of_ble_eq_true rfl⟩) (mx_pv (C := RX2) (T := TX2) (N := 2) (ci := 2) hK hP hD hN (by omega : 3 < n) hM.2.2.1.cell rfl) rfl rfl hl.1 rfl (lv_room (Nat.le_of_ble_eq_true rfl)) dX3_format_4 ⟨Nat.zero_le _, Nat.zero_le _⟩) (Nat.le_refl _) hS (fun c1 H locs hw1 hP hS => ?_)
  obtain ⟨hs1, hT1⟩ := hw1
  have hM1 := hM.pat hs1 hT1
  refine lv_aload_n hx hb dX3_format_7 rfl (lv_at hl 0 rfl) ?_
  refine mx_get (ci := 3) (v := .ref (ad 3)) (C := RX3) (T := TX3) (N := 9) hx hb hts inX3 hown hK hP (by omega : 0 < n) hM1.1 rfl 1 (by decide) (hts _ wm_78) (fun _ h9 => h9) rfl dX3_format_8 ?_
  refine lv_aload_n hx hb dX3_format_11 rfl (lv_at hl 0 rfl) ?_
  refine mx_get (ci := 3) (v := .ref (ad 1)) (C := RX3) (T := TX3) (N := 9) hx hb hts inX3 hown hK hP (by omega : 0 < n) hM1.1 rfl 0 (by decide) (hts _ wm_77) (fun _ h9 => h9) rfl dX3_format_12 ?_
  refine mx_cv (va_runV (As := [.ref (ad 1)]) (rest := []) ⟨hx, hb, hml, hown, hts⟩ (c_Text_text l D ca n ad c1 (k := 3) (by omega) hM1.2.2.1 (k2 := 1) (by omega) hM1.2.1 (by decide) (by simp only [List.length_nil]; omega) _) (cwV 1 hts (gV wm_137 wm_138 wm_139 wm_2 wm_140) rfl rfl rfl (by decide +kernel) ⟨Nat.le_of_ble_eq_true rfl, Nat.le_of_ble_eq_true rfl⟩) (mx_pv (C := RX2) (T := TX2) (N := 2) (ci := 2) hK hP hD hN (by omega : 3 < n) hM1.2.2.1.cell rfl) rfl rfl hl.1 rfl (lv_room (Nat.le_of_ble_eq_true rfl)) dX3_format_15 ⟨Nat.zero_le _, Nat.zero_le _⟩) (Nat.le_refl _) hS (fun c2 H locs hw2 hP hS => ?_)
  obtain ⟨hs2, hT2⟩ := hw2
  rw [List.nil_append] at hT2
  have hM2 := hM1.pat hs2 hT2
  refine lv_aload_n hx hb dX3_format_18 rfl (lv_at hl 0 rfl) ?_
  refine mx_get (ci := 3) (v := .ref (ad 1)) (C := RX3) (T := TX3) (N := 9) hx hb hts inX3 hown hK hP (by omega : 0 < n) hM2.1 rfl 0 (by decide) (hts _ wm_77) (fun _ h9 => h9) rfl dX3_format_19 ?_
  refine mx_cv (va_runV (As := []) (rest := []) ⟨hx, hb, hml, hown, hts⟩ (c_Text_empty l D ca n ad c2 (k := 1) (by omega) hM2.2.1 _) (cwV 0 hts (gV wm_133 wm_134 wm_135 wm_2 wm_136) rfl rfl rfl (by decide +kernel) ⟨Nat.le_of_ble_eq_true rfl, Nat.le_of_ble_eq_true rfl⟩) (mx_pv (C := RX2) (T := TX2) (N := 2) (ci := 2) hK hP hD hN (by omega : 1 < n) hM2.2.1.cell rfl) rfl rfl hl.1 rfl (lv_room (Nat.le_of_ble_eq_true rfl)) dX3_format_22 ⟨Nat.zero_le _, Nat.zero_le _⟩) (Nat.le_refl _) hS (fun c3 H locs hw3 hP hS => ?_)
  obtain ⟨hs3, hT3⟩ := hw3
  have hM3 := hM2.tape hs3 hT3
  refine lv_aload_n hx hb dX3_format_25 rfl (lv_at hl 0 rfl) ?_
  refine mx_get (ci := 3) (v := .ref (ad 3)) (C := RX3) (T := TX3) (N := 9) hx hb hts inX3 hown hK hP (by omega : 0 < n) hM3.1 rfl 1 (by decide) (hts _ wm_78) (fun _ h9 => h9) rfl dX3_format_26 ?_
  refine mx_getN (ci := 2) (v := .int (nI tp.length)) (C := RX2) (T := TX2) (N := 2) hx hb hts inX2 hown hK hP (by omega : 3 < n) hM3.2.2.1.cell rfl 1 (by decide) (hN.1 _ nn_2) (fun _ h9 => h9) rfl dX3_format_29 ?_
  exact mx_iret hx hb hr hlocks hP hS (⟨rfl, hM3, fun j h => (hs3 j (by omega) (by omega)).trans ((hs2 j (by omega) (by omega)).trans (hs1 j (by omega) (by omega)))⟩) dX3_format_32
set_option maxHeartbeats 4000000 in
set_option maxRecDepth 100000 in
/-- hasRoomForArgument -/
theorem c_hasRoom (l : Launch) (D : va_G) (ca : Nat → ClassId) (n : Nat) (ad : Nat → Nat) (c : Nat → va_E) {tp pt md dg : List Nat} {ar : Nat → List Nat} {ac tk : Nat} {f : fl4} {w kd bh : Int32} {v : Int64} (hn : 52 ≤ n) (hM : tMF ca ad c tp pt md ar ac tk f w kd bh v dg) : mInt l yX3_hasRoomForArgument wsX3_hasRoomForArgument ({ frames := 0, cells := 0, slots := 0, locals := 0 }) [.ref (ad 0)] D (tTY ca) n ad c (fun r c' => c' = c ∧ ((ac < 20 ∧ r = 1) ∨ (20 ≤ ac ∧ r = 0))) := by
  intro sz
  refine Met.ofW (cc := cX3_hasRoomForArgument) (maxL := 1) (ret := (some .boolean)) (by decide) rfl ?_
  intro pg9 ev9 s m args below meth cd s₁ B hml hv
  obtain ⟨rfl, hsz, hP, hK, hD0, hN⟩ := hv
  have hx := B.exec
  have hb := B.bytes
  have hr := B.returns
  have hts := fun (w : Cond) (h : w ∈ WSa) => atoms_spec (ws := wsX3_hasRoomForArgument) B.pre w (List.mem_cons_of_mem _ h)
  have hown : s.vm.findClass RX3 = some m.cls := findClass_of_methodNamed B.named
  have hlocks := B.notSynchronized
  subst hsz
  have hD : ∀ c, va_D (fun _ => True) (mw n ad c) := fun c' => mw_D hD0 c'
  have hS : va_S (mA n ad s.heap.size) s.heap s.heap [] := va_S.rf
  have hl := lv_entry ([.ref (ad 0)]) (n := 1) (Nat.le_of_ble_eq_true rfl)
  rw [lg_entry_eq]
  generalize (lg_sl ([.ref (ad 0)]) ++ List.replicate (1 - (lg_sl ([.ref (ad 0)])).length) Slot.unset).toArray = ls at hl ⊢
  have hl : lv_has ls 1 [(0, .ref (ad 0))] := hl
  have hac := hM.2.2.2.2.2.2.2.2.2.1
  obtain ⟨g7, h7, hg7⟩ := hM.2.2.2.2.1
  refine lv_aload_n hx hb dX3_hasRoomForArgument_0 rfl (lv_at hl 0 rfl) ?_
  refine mx_get (ci := 3) (v := .int (nI ac)) (C := RX3) (T := TX3) (N := 9) hx hb hts inX3 hown hK hP (by omega : 0 < n) hM.1 rfl 4 (by decide) (hts _ wm_81) (fun _ h9 => h9) rfl dX3_hasRoomForArgument_1 ?_
  refine lv_if_lt (tgt := 23) hx hb dX3_hasRoomForArgument_4 (by decide) (fun hc => ?_) (fun hc => ?_)
  · skip
    exact absurd hc (nI_pos (by omega))
  · skip
    refine lv_aload_n hx hb dX3_hasRoomForArgument_7 rfl (lv_at hl 0 rfl) ?_
    refine mx_get (ci := 3) (v := .int (nI ac)) (C := RX3) (T := TX3) (N := 9) hx hb hts inX3 hown hK hP (by omega : 0 < n) hM.1 rfl 4 (by decide) (hts _ wm_81) (fun _ h9 => h9) rfl dX3_hasRoomForArgument_8 ?_
    refine lv_aload_n hx hb dX3_hasRoomForArgument_11 rfl (lv_at hl 0 rfl) ?_
    refine mx_get (ci := 3) (v := .ref (ad 7)) (C := RX3) (T := TX3) (N := 9) hx hb hts inX3 hown hK hP (by omega : 0 < n) hM.1 rfl 3 (by decide) (hts _ wm_80) (fun _ h9 => h9) rfl dX3_hasRoomForArgument_12 ?_
    refine mx_alen (v := nI 20) hx hb hK hP (by omega : 7 < n) 1 h7 rfl rfl dX3_hasRoomForArgument_15 ?_
    refine lv_icmp_ge (tgt := 23) hx hb dX3_hasRoomForArgument_16 (by decide) (fun hc2 => ?_) (fun hc2 => ?_)
    · skip
      refine lv_iconst (v := 0) hx hb dX3_hasRoomForArgument_23 (by decide) ?_
      exact mx_zret hx hb hr hlocks rfl hP hS (⟨rfl, Or.inr ⟨(nI_leI (by omega) (by omega)).mp hc2, rfl⟩⟩) dX3_hasRoomForArgument_24
    · skip
      refine lv_iconst (v := 1) hx hb dX3_hasRoomForArgument_19 (by decide) ?_
      refine lv_goto (tgt := 24) hx hb dX3_hasRoomForArgument_20 (by decide) ?_
      exact mx_zret hx hb hr hlocks rfl hP hS (⟨rfl, Or.inl ⟨by have := (not_congr (nI_leI (by omega) (by omega))).mp hc2; omega, rfl⟩⟩) dX3_hasRoomForArgument_24
set_option maxHeartbeats 4000000 in
set_option maxRecDepth 100000 in
/-- nextArgument -/
theorem c_nextArg (l : Launch) (D : va_G) (ca : Nat → ClassId) (n : Nat) (ad : Nat → Nat) (c : Nat → va_E) {tp pt md dg : List Nat} {ar : Nat → List Nat} {ac tk : Nat} {f : fl4} {w kd bh : Int32} {v : Int64} (hn : 52 ≤ n) (hM : tMF ca ad c tp pt md ar ac tk f w kd bh v dg) (hlt : ac < 20) : mRef l yX3_nextArgument wsX3_nextArgument ({ frames := 1, cells := 0, slots := 0, locals := 20 }) [.ref (ad 0)] D (tTY ca) n ad c (fun r c' => r = ad (8 + 2 * ac) ∧ tMF ca ad c' tp pt md (va_up ar ac []) (ac + 1) tk f w kd bh v dg ∧ ∀ j, 52 ≤ j → c' j = c j) := by
  intro sz
  refine Met.ofW (cc := cX3_nextArgument) (maxL := 2) (ret := (some (.object "FormatMill$Text"))) (by decide) rfl ?_
  intro pg9 ev9 s m args below meth cd s₁ B hml hv
  obtain ⟨rfl, hsz, hP, hK, hD0, hN⟩ := hv
  have hx := B.exec
  have hb := B.bytes
  have hr := B.returns
  have hts := fun (w : Cond) (h : w ∈ WSa) => atoms_spec (ws := wsX3_nextArgument) B.pre w (List.mem_cons_of_mem _ h)
  have hown : s.vm.findClass RX3 = some m.cls := findClass_of_methodNamed B.named
  have hlocks := B.notSynchronized
  subst hsz
  have hD : ∀ c, va_D (fun _ => True) (mw n ad c) := fun c' => mw_D hD0 c'
  have hS : va_S (mA n ad s.heap.size) s.heap s.heap [] := va_S.rf
  have hl := lv_entry ([.ref (ad 0)]) (n := 2) (Nat.le_of_ble_eq_true rfl)
  rw [lg_entry_eq]
  generalize (lg_sl ([.ref (ad 0)]) ++ List.replicate (2 - (lg_sl ([.ref (ad 0)])).length) Slot.unset).toArray = ls at hl ⊢
  have hl : lv_has ls 2 [(0, .ref (ad 0))] := hl
  obtain ⟨g7, h7, hg7⟩ := hM.2.2.2.2.1
  refine lv_aload_n hx hb dX3_nextArgument_0 rfl (lv_at hl 0 rfl) ?_
  refine mx_get (ci := 3) (v := .ref (ad 7)) (C := RX3) (T := TX3) (N := 9) hx hb hts inX3 hown hK hP (by omega : 0 < n) hM.1 rfl 3 (by decide) (hts _ wm_80) (fun _ h9 => h9) rfl dX3_nextArgument_1 ?_
  refine lv_aload_n hx hb dX3_nextArgument_4 rfl (lv_at hl 0 rfl) ?_
  refine mx_get (ci := 3) (v := .int (nI ac)) (C := RX3) (T := TX3) (N := 9) hx hb hts inX3 hown hK hP (by omega : 0 < n) hM.1 rfl 4 (by decide) (hts _ wm_81) (fun _ h9 => h9) rfl dX3_nextArgument_5 ?_
  refine mx_aald hx hb hK hP (by omega : 7 < n) 1 h7 rfl (vp_in_nI hlt (by omega)) (.ref (ad (8 + 2 * ac))) (by rw [nI_clamp (by omega), hg7 ac hlt]; rfl) dX3_nextArgument_8 ?_
  refine lv_astore_n (lv' := [(1, .ref (ad (8 + 2 * ac))), (0, .ref (ad 0))]) hx hb dX3_nextArgument_9 rfl hl (by decide) rfl (fun ls hl => ?_)
  refine lv_aload_n hx hb dX3_nextArgument_10 rfl (lv_at hl 1 rfl) ?_
  refine lv_dup hx hb dX3_nextArgument_11 rfl ?_
  refine mx_get (ci := 3) (v := .int (nI ac)) (C := RX3) (T := TX3) (N := 9) hx hb hts inX3 hown hK hP (by omega : 0 < n) hM.1 rfl 4 (by decide) (hts _ wm_81) (fun _ h9 => h9) rfl dX3_nextArgument_12 ?_
  refine lv_iconst (v := 1) hx hb dX3_nextArgument_15 (by decide) ?_
  refine lv_iadd hx hb dX3_nextArgument_16 ?_
  refine mx_i (nI (ac + 1)) (nI_1 ac) ?_
  refine mx_put (ci := 3) (v := .int (nI (ac + 1))) (ty := .int) (C := RX3) (T := TX3) (N := 9) hx hb hts inX3 tyX3 tyX3_ok nmX3 hown hK hP hD hS (by omega : 0 < n) hM.1 rfl 4 (by decide) (hts _ wm_81) (fun _ h9 => h9) rfl (by decide +kernel) rfl rfl (Nat.le_of_ble_eq_true rfl) dX3_nextArgument_17 (fun H locs hP hS => ?_)
  obtain ⟨c1, ec1⟩ : ∃ z : Nat → va_E, z = va_up c 0 (.inr (3, [.ref (ad 1), .ref (ad 3), .ref (ad 5), .ref (ad 7), .int (nI (ac + 1)), .int (nI tk), .ref (ad 48), .ref (ad 49), .ref (ad 50)])) := ⟨_, rfl⟩
  have hP : va_P D vwCl (mw n ad c1) H := by rw [ec1]; exact hP
  have hsc1 : ∀ j, j ≠ 0 → c1 j = c j := fun j h => by rw [ec1]; exact va_up_ne _ _ h
  have hcc1 : c1 0 = .inr (3, [.ref (ad 1), .ref (ad 3), .ref (ad 5), .ref (ad 7), .int (nI (ac + 1)), .int (nI tk), .ref (ad 48), .ref (ad 49), .ref (ad 50)]) := by rw [ec1]; exact va_up_self _ _ _
  have hM1 := hM.cel hsc1 hcc1 (by omega) hM.2.2.2.2.2.2.2.2.2.2
  refine lv_aload_n hx hb dX3_nextArgument_20 rfl (lv_at hl 0 rfl) ?_
  refine mx_cv (va_runV (As := []) (rest := []) ⟨hx, hb, hml, hown, hts⟩ (c_Text_empty l D ca n ad c1 (k := 8 + 2 * ac) (by omega) (hM1.2.2.2.2.2.1 ac hlt) _) (cwV 0 hts (gV wm_133 wm_134 wm_135 wm_2 wm_136) rfl rfl rfl (by decide +kernel) ⟨Nat.le_of_ble_eq_true rfl, Nat.le_of_ble_eq_true rfl⟩) (mx_pv (C := RX2) (T := TX2) (N := 2) (ci := 2) hK hP hD hN (by omega : 8 + 2 * ac < n) (hM1.2.2.2.2.2.1 ac hlt).cell rfl) rfl rfl hl.1 rfl (lv_room (Nat.le_of_ble_eq_true rfl)) dX3_nextArgument_21 ⟨Nat.zero_le _, Nat.zero_le _⟩) (Nat.le_refl _) hS (fun c2 H locs hw hP hS => ?_)
  obtain ⟨hs2, hT2⟩ := hw
  have hM2 := hM1.arg hlt hs2 hT2
  refine lv_aload_n hx hb dX3_nextArgument_24 rfl (lv_at hl 0 rfl) ?_
  exact mx_aret hx hb hr (Or.inl ⟨_, rfl⟩) hlocks hP hS (⟨rfl, hM2, fun j h => (hs2 j (by omega) (by omega)).trans (hsc1 j (by omega))⟩) dX3_nextArgument_25
set_option maxHeartbeats 4000000 in
set_option maxRecDepth 100000 in
/-- argument -/
theorem c_argument (l : Launch) (D : va_G) (ca : Nat → ClassId) (n : Nat) (ad : Nat → Nat) (c : Nat → va_E) {tp pt md dg : List Nat} {ar : Nat → List Nat} {ac tk : Nat} {f : fl4} {w kd bh : Int32} {v : Int64} (hn : 52 ≤ n) (hM : tMF ca ad c tp pt md ar ac tk f w kd bh v dg) : mInt l yX3_argument wsX3_argument ({ frames := 2, cells := 0, slots := 0, locals := 44 }) [.ref (ad 0)] D (tTY ca) n ad c (fun r c' => ((tp.length ≤ 40 ∧ ac < 20 ∧ r = nI ac ∧ tMF ca ad c' [] pt md (va_up ar ac tp) (ac + 1) tk f w kd bh v dg) ∨ (¬ (tp.length ≤ 40 ∧ ac < 20) ∧ r = -1 ∧ tMF ca ad c' [] pt md ar ac tk f w kd bh v dg)) ∧ ∀ j, 52 ≤ j → c' j = c j) := by
  intro sz
  refine Met.ofW (cc := cX3_argument) (maxL := 2) (ret := (some .int)) (by decide) rfl ?_
  intro pg9 ev9 s m args below meth cd s₁ B hml hv
  obtain ⟨rfl, hsz, hP, hK, hD0, hN⟩ := hv
  have hx := B.exec
  have hb := B.bytes
  have hr := B.returns
  have hts := fun (w : Cond) (h : w ∈ WSa) => atoms_spec (ws := wsX3_argument) B.pre w (List.mem_cons_of_mem _ h)
  have hown : s.vm.findClass RX3 = some m.cls := findClass_of_methodNamed B.named
  have hlocks := B.notSynchronized
  subst hsz
  have hD : ∀ c, va_D (fun _ => True) (mw n ad c) := fun c' => mw_D hD0 c'
  have hS : va_S (mA n ad s.heap.size) s.heap s.heap [] := va_S.rf
  have hl := lv_entry ([.ref (ad 0)]) (n := 2) (Nat.le_of_ble_eq_true rfl)
  rw [lg_entry_eq]
  generalize (lg_sl ([.ref (ad 0)]) ++ List.replicate (2 - (lg_sl ([.ref (ad 0)])).length) Slot.unset).toArray = ls at hl ⊢
  have hl : lv_has ls 2 [(0, .ref (ad 0))] := hl
  have hle1 := hM.2.1.le
  have hac := hM.2.2.2.2.2.2.2.2.2.1
  refine lv_iconst (v := (-1)) hx hb dX3_argument_0 (by decide) ?_
  refine lv_istore_n (lv' := [(1, .int ((-1))), (0, .ref (ad 0))]) hx hb dX3_argument_1 rfl hl (by decide) rfl (fun ls hl => ?_)
  refine lv_aload_n hx hb dX3_argument_2 rfl (lv_at hl 1 rfl) ?_
  refine mx_get (ci := 3) (v := .ref (ad 1)) (C := RX3) (T := TX3) (N := 9) hx hb hts inX3 hown hK hP (by omega : 0 < n) hM.1 rfl 0 (by decide) (hts _ wm_77) (fun _ h9 => h9) rfl dX3_argument_3 ?_
  refine mx_getN (ci := 2) (v := .int (nI tp.length)) (C := RX2) (T := TX2) (N := 2) hx hb hts inX2 hown hK hP (by omega : 1 < n) hM.2.1.cell rfl 1 (by decide) (hN.1 _ nn_2) (fun _ h9 => h9) rfl dX3_argument_6 ?_
  refine lv_bipush (v := 40) hx hb dX3_argument_9 (by decide) ?_
  refine lv_icmp_gt (tgt := 39) hx hb dX3_argument_11 (by decide) (fun hc => ?_) (fun hc => ?_)
  · skip
    refine lv_aload_n hx hb dX3_argument_39 rfl (lv_at hl 1 rfl) ?_
    refine mx_get (ci := 3) (v := .ref (ad 1)) (C := RX3) (T := TX3) (N := 9) hx hb hts inX3 hown hK hP (by omega : 0 < n) hM.1 rfl 0 (by decide) (hts _ wm_77) (fun _ h9 => h9) rfl dX3_argument_40 ?_
    refine mx_cv (va_runV (As := []) (rest := []) ⟨hx, hb, hml, hown, hts⟩ (c_Text_empty l D ca n ad c (k := 1) (by omega) hM.2.1 _) (cwV 0 hts (gV wm_133 wm_134 wm_135 wm_2 wm_136) rfl rfl rfl (by decide +kernel) ⟨Nat.le_of_ble_eq_true rfl, Nat.le_of_ble_eq_true rfl⟩) (mx_pv (C := RX2) (T := TX2) (N := 2) (ci := 2) hK hP hD hN (by omega : 1 < n) hM.2.1.cell rfl) rfl rfl hl.1 rfl (lv_room (Nat.le_of_ble_eq_true rfl)) dX3_argument_43 ⟨Nat.zero_le _, Nat.zero_le _⟩) (Nat.le_refl _) hS (fun c3 H locs hw3 hP hS => ?_)
    obtain ⟨hs3, hT3⟩ := hw3
    refine lv_iload_n hx hb dX3_argument_46 rfl (lv_at hl 0 rfl) ?_
    exact mx_iret hx hb hr hlocks hP hS (⟨Or.inr ⟨fun h => absurd h.1 (by have := (nI_ltI (a := 40) (by omega) (by omega)).mp hc; omega), rfl, hM.tape hs3 hT3⟩, fun j h => hs3 j (by omega) (by omega)⟩) dX3_argument_47
  · skip
    have h40 : tp.length ≤ 40 := by have := (not_congr (nI_ltI (a := 40) (by omega) (by omega : tp.length < 2 ^ 31))).mp hc; omega
    refine lv_aload_n hx hb dX3_argument_14 rfl (lv_at hl 1 rfl) ?_
    refine mx_ci (va_runV (As := []) (rest := []) ⟨hx, hb, hml, hown, hts⟩ (c_hasRoom l D ca n ad c hn hM _) (cwV 0 hts (gV wm_149 wm_151 ws_0 wm_1 wm_152) rfl rfl rfl (by decide +kernel) ⟨Nat.le_of_ble_eq_true rfl, Nat.le_of_ble_eq_true rfl⟩) (mx_pv (C := RX3) (T := TX3) (N := 9) (ci := 3) hK hP hD hN (by omega : 0 < n) hM.1 rfl) rfl rfl hl.1 rfl (lv_room (Nat.le_of_ble_eq_true rfl)) dX3_argument_15 ⟨Nat.zero_le _, Nat.zero_le _⟩) (Nat.le_refl _) hS (fun r c1 H locs hw hP hS => ?_)
    obtain ⟨hcE, hw⟩ := hw
    rw [hcE] at hP
    refine lv_if_eq (tgt := 39) hx hb dX3_argument_18 (by decide) (fun hc2 => ?_) (fun hc2 => ?_)
    · skip
      refine lv_aload_n hx hb dX3_argument_39 rfl (lv_at hl 1 rfl) ?_
      refine mx_get (ci := 3) (v := .ref (ad 1)) (C := RX3) (T := TX3) (N := 9) hx hb hts inX3 hown hK hP (by omega : 0 < n) hM.1 rfl 0 (by decide) (hts _ wm_77) (fun _ h9 => h9) rfl dX3_argument_40 ?_
      refine mx_cv (va_runV (As := []) (rest := []) ⟨hx, hb, hml, hown, hts⟩ (c_Text_empty l D ca n ad c (k := 1) (by omega) hM.2.1 _) (cwV 0 hts (gV wm_133 wm_134 wm_135 wm_2 wm_136) rfl rfl rfl (by decide +kernel) ⟨Nat.le_of_ble_eq_true rfl, Nat.le_of_ble_eq_true rfl⟩) (mx_pv (C := RX2) (T := TX2) (N := 2) (ci := 2) hK hP hD hN (by omega : 1 < n) hM.2.1.cell rfl) rfl rfl hl.1 rfl (lv_room (Nat.le_of_ble_eq_true rfl)) dX3_argument_43 ⟨Nat.zero_le _, Nat.zero_le _⟩) (Nat.le_refl _) hS (fun c3 H locs hw3 hP hS => ?_)
      obtain ⟨hs3, hT3⟩ := hw3
      refine lv_iload_n hx hb dX3_argument_46 rfl (lv_at hl 0 rfl) ?_
      exact mx_iret hx hb hr hlocks hP hS (⟨Or.inr ⟨fun h => absurd h.2 (by rcases hw with h9 | h9; exact absurd (h9.2.symm.trans hc2) (by decide); omega), rfl, hM.tape hs3 hT3⟩, fun j h => hs3 j (by omega) (by omega)⟩) dX3_argument_47
    · skip
      have hlt : ac < 20 := by rcases hw with h9 | h9; exact h9.1; exact absurd h9.2 hc2
      refine lv_aload_n hx hb dX3_argument_21 rfl (lv_at hl 1 rfl) ?_
      refine mx_cr (va_runV (As := []) (rest := []) ⟨hx, hb, hml, hown, hts⟩ (c_nextArg l D ca n ad c hn hM hlt _) (cwV 0 hts (gV wm_153 wm_155 ws_1 wm_1 wm_156) rfl rfl rfl (by decide +kernel) ⟨Nat.le_of_ble_eq_true rfl, Nat.le_of_ble_eq_true rfl⟩) (mx_pv (C := RX3) (T := TX3) (N := 9) (ci := 3) hK hP hD hN (by omega : 0 < n) hM.1 rfl) rfl rfl hl.1 rfl (lv_room (Nat.le_of_ble_eq_true rfl)) dX3_argument_22 ⟨Nat.zero_le _, Nat.zero_le _⟩) (Nat.le_refl _) hS (fun r1 c1 H locs hw1 hP hS => ?_)
      obtain ⟨hr1, hM1, hs1⟩ := hw1
      refine mx_r (.ref (ad (8 + 2 * ac))) (by rw [hr1]) ?_
      have hTa := hM1.2.2.2.2.2.1 ac hlt
      rw [va_up_self] at hTa
      refine lv_aload_n hx hb dX3_argument_25 rfl (lv_at hl 1 rfl) ?_
      refine mx_get (ci := 3) (v := .ref (ad 1)) (C := RX3) (T := TX3) (N := 9) hx hb hts inX3 hown hK hP (by omega : 0 < n) hM1.1 rfl 0 (by decide) (hts _ wm_77) (fun _ h9 => h9) rfl dX3_argument_26 ?_
      refine mx_cv (va_runV (As := [.ref (ad 1)]) (rest := []) ⟨hx, hb, hml, hown, hts⟩ (c_Text_text l D ca n ad c1 (k := 8 + 2 * ac) (by omega) hTa (k2 := 1) (by omega) hM1.2.1 (by omega) (by simp only [List.length_nil]; omega) _) (cwV 1 hts (gV wm_137 wm_138 wm_139 wm_2 wm_140) rfl rfl rfl (by decide +kernel) ⟨Nat.le_of_ble_eq_true rfl, Nat.le_of_ble_eq_true rfl⟩) (mx_pv (C := RX2) (T := TX2) (N := 2) (ci := 2) hK hP hD hN (by omega : 8 + 2 * ac < n) hTa.cell rfl) rfl rfl hl.1 rfl (lv_room (Nat.le_of_ble_eq_true rfl)) dX3_argument_29 ⟨Nat.zero_le _, Nat.zero_le _⟩) (Nat.le_refl _) hS (fun c2 H locs hw2 hP hS => ?_)
      obtain ⟨hs2, hT2⟩ := hw2
      rw [List.nil_append] at hT2
      have hM2 := hM1.arg hlt hs2 hT2
      refine lv_aload_n hx hb dX3_argument_32 rfl (lv_at hl 1 rfl) ?_
      refine mx_get (ci := 3) (v := .int (nI (ac + 1))) (C := RX3) (T := TX3) (N := 9) hx hb hts inX3 hown hK hP (by omega : 0 < n) hM2.1 rfl 4 (by decide) (hts _ wm_81) (fun _ h9 => h9) rfl dX3_argument_33 ?_
      refine lv_iconst (v := 1) hx hb dX3_argument_36 (by decide) ?_
      refine lv_isub hx hb dX3_argument_37 ?_
      refine mx_i (nI ac) (nI_pred ac) ?_
      refine lv_istore_n (lv' := [(1, .int (nI ac)), (0, .ref (ad 0))]) hx hb dX3_argument_38 rfl hl (by decide) rfl (fun ls hl => ?_)
      refine lv_aload_n hx hb dX3_argument_39 rfl (lv_at hl 1 rfl) ?_
      refine mx_get (ci := 3) (v := .ref (ad 1)) (C := RX3) (T := TX3) (N := 9) hx hb hts inX3 hown hK hP (by omega : 0 < n) hM2.1 rfl 0 (by decide) (hts _ wm_77) (fun _ h9 => h9) rfl dX3_argument_40 ?_
      refine mx_cv (va_runV (As := []) (rest := []) ⟨hx, hb, hml, hown, hts⟩ (c_Text_empty l D ca n ad c2 (k := 1) (by omega) hM2.2.1 _) (cwV 0 hts (gV wm_133 wm_134 wm_135 wm_2 wm_136) rfl rfl rfl (by decide +kernel) ⟨Nat.le_of_ble_eq_true rfl, Nat.le_of_ble_eq_true rfl⟩) (mx_pv (C := RX2) (T := TX2) (N := 2) (ci := 2) hK hP hD hN (by omega : 1 < n) hM2.2.1.cell rfl) rfl rfl hl.1 rfl (lv_room (Nat.le_of_ble_eq_true rfl)) dX3_argument_43 ⟨Nat.zero_le _, Nat.zero_le _⟩) (Nat.le_refl _) hS (fun c3 H locs hw3 hP hS => ?_)
      obtain ⟨hs3, hT3⟩ := hw3
      have hM3 := hM2.tape hs3 hT3
      rw [bx_uu] at hM3
      refine lv_iload_n hx hb dX3_argument_46 rfl (lv_at hl 0 rfl) ?_
      exact mx_iret hx hb hr hlocks hP hS (⟨Or.inl ⟨h40, hlt, rfl, hM3⟩, fun j h => (hs3 j (by omega) (by omega)).trans ((hs2 j (by omega) (by omega)).trans (hs1 j h))⟩) dX3_argument_47
set_option maxHeartbeats 4000000 in
set_option maxRecDepth 100000 in
/-- number -/
theorem c_number (l : Launch) (D : va_G) (ca : Nat → ClassId) (n : Nat) (ad : Nat → Nat) (c : Nat → va_E) {tp pt md dg : List Nat} {ar : Nat → List Nat} {ac tk : Nat} {f : fl4} {w kd bh : Int32} {v : Int64} (hn : 52 ≤ n) (hM : tMF ca ad c tp pt md ar ac tk f w kd bh v dg) (x : Int64) : mInt l yX3_number wsX3_number ({ frames := 2, cells := 0, slots := 0, locals := 47 }) [.ref (ad 0), .long x] D (tTY ca) n ad c (fun r c' => ((ac < 20 ∧ r = nI ac ∧ tMF ca ad c' tp pt md (va_up ar ac (tNum x)) (ac + 1) tk f w kd bh v dg) ∨ (20 ≤ ac ∧ r = -1 ∧ c' = c)) ∧ ∀ j, 52 ≤ j → c' j = c j) := by
  intro sz
  refine Met.ofW (cc := cX3_number) (maxL := 4) (ret := (some .int)) (by decide) rfl ?_
  intro pg9 ev9 s m args below meth cd s₁ B hml hv
  obtain ⟨rfl, hsz, hP, hK, hD0, hN⟩ := hv
  have hx := B.exec
  have hb := B.bytes
  have hr := B.returns
  have hts := fun (w : Cond) (h : w ∈ WSa) => atoms_spec (ws := wsX3_number) B.pre w (List.mem_cons_of_mem _ h)
  have hown : s.vm.findClass RX3 = some m.cls := findClass_of_methodNamed B.named
  have hlocks := B.notSynchronized
  subst hsz
  have hD : ∀ c, va_D (fun _ => True) (mw n ad c) := fun c' => mw_D hD0 c'
  have hS : va_S (mA n ad s.heap.size) s.heap s.heap [] := va_S.rf
  have hl := lv_entry ([.ref (ad 0), .long x]) (n := 4) (Nat.le_of_ble_eq_true rfl)
  rw [lg_entry_eq]
  generalize (lg_sl ([.ref (ad 0), .long x]) ++ List.replicate (4 - (lg_sl ([.ref (ad 0), .long x])).length) Slot.unset).toArray = ls at hl ⊢
  have hl : lv_has ls 4 [(0, .ref (ad 0)), (1, .long x)] := hl
  have hac := hM.2.2.2.2.2.2.2.2.2.1
  refine lv_aload_n hx hb dX3_number_0 rfl (lv_at hl 0 rfl) ?_
  refine mx_ci (va_runV (As := []) (rest := []) ⟨hx, hb, hml, hown, hts⟩ (c_hasRoom l D ca n ad c hn hM _) (cwV 0 hts (gV wm_149 wm_151 ws_0 wm_1 wm_152) rfl rfl rfl (by decide +kernel) ⟨Nat.le_of_ble_eq_true rfl, Nat.le_of_ble_eq_true rfl⟩) (mx_pv (C := RX3) (T := TX3) (N := 9) (ci := 3) hK hP hD hN (by omega : 0 < n) hM.1 rfl) rfl rfl hl.1 rfl (lv_room (Nat.le_of_ble_eq_true rfl)) dX3_number_1 ⟨Nat.zero_le _, Nat.zero_le _⟩) (Nat.le_refl _) hS (fun r c1 H locs hw hP hS => ?_)
  obtain ⟨hcE, hw⟩ := hw
  rw [hcE] at hP
  refine lv_if_ne (tgt := 9) hx hb dX3_number_4 (by decide) (fun hc => ?_) (fun hc => ?_)
  · skip
    have hlt : ac < 20 := by rcases hw with h9 | h9; exact h9.1; exact absurd h9.2 hc
    refine lv_aload_n hx hb dX3_number_9 rfl (lv_at hl 0 rfl) ?_
    refine mx_cr (va_runV (As := []) (rest := []) ⟨hx, hb, hml, hown, hts⟩ (c_nextArg l D ca n ad c hn hM hlt _) (cwV 0 hts (gV wm_153 wm_155 ws_1 wm_1 wm_156) rfl rfl rfl (by decide +kernel) ⟨Nat.le_of_ble_eq_true rfl, Nat.le_of_ble_eq_true rfl⟩) (mx_pv (C := RX3) (T := TX3) (N := 9) (ci := 3) hK hP hD hN (by omega : 0 < n) hM.1 rfl) rfl rfl hl.1 rfl (lv_room (Nat.le_of_ble_eq_true rfl)) dX3_number_10 ⟨Nat.zero_le _, Nat.zero_le _⟩) (Nat.le_refl _) hS (fun r1 c1 H locs hw1 hP hS => ?_)
    obtain ⟨hr1, hM1, hs1⟩ := hw1
    refine mx_r (.ref (ad (8 + 2 * ac))) (by rw [hr1]) ?_
    have hTa := hM1.2.2.2.2.2.1 ac hlt
    rw [va_up_self] at hTa
    refine lv_astore_n (lv' := [(3, .ref (ad (8 + 2 * ac))), (0, .ref (ad 0)), (1, .long x)]) hx hb dX3_number_13 rfl hl (by decide) rfl (fun ls hl => ?_)
    refine lv_lload_n hx hb dX3_number_14 rfl (lv_at hl 2 rfl) ?_
    refine lv_lconst (v := 0) hx hb dX3_number_15 (by decide) ?_
    refine W.lcmp hx hb dX3_number_16 ?_
    refine lv_if_ge (tgt := 27) hx hb dX3_number_17 (by decide) (fun hc2 => ?_) (fun hc2 => ?_)
    · skip
      refine lv_aload_n hx hb dX3_number_27 rfl (lv_at hl 0 rfl) ?_
      refine lv_lload_n hx hb dX3_number_28 rfl (lv_at hl 2 rfl) ?_
      refine mx_cv (va_runV (As := [.long x]) (rest := []) ⟨hx, hb, hml, hown, hts⟩ (c_Text_dec l D ca n ad c1 (k := 8 + 2 * ac) (by omega) hTa x (by simp; try omega) _) (cwV 1 hts (gV wm_162 wm_163 wm_164 wm_2 wm_165) rfl rfl rfl (by decide +kernel) ⟨Nat.le_of_ble_eq_true rfl, Nat.le_of_ble_eq_true rfl⟩) (mx_pv (C := RX2) (T := TX2) (N := 2) (ci := 2) hK hP hD hN (by omega : 8 + 2 * ac < n) hTa.cell rfl) rfl rfl hl.1 rfl (lv_room (Nat.le_of_ble_eq_true rfl)) dX3_number_29 ⟨Nat.zero_le _, Nat.zero_le _⟩) (Nat.le_refl _) hS (fun c3 H locs hw3 hP hS => ?_)
      obtain ⟨hs3, hT3⟩ := hw3
      have hT9 : tTx ca ad c3 (8 + 2 * ac) 40 (tNum x) := by unfold tNum; rw [if_neg (Int64.not_lt.mpr ((lg_cmp_ge _ _).mp hc2))]; exact hT3
      have hM3 := hM1.arg hlt (hs3) hT9
      rw [bx_uu] at hM3
      refine lv_aload_n hx hb dX3_number_32 rfl (lv_at hl 1 rfl) ?_
      refine mx_get (ci := 3) (v := .int (nI (ac + 1))) (C := RX3) (T := TX3) (N := 9) hx hb hts inX3 hown hK hP (by omega : 0 < n) hM3.1 rfl 4 (by decide) (hts _ wm_81) (fun _ h9 => h9) rfl dX3_number_33 ?_
      refine lv_iconst (v := 1) hx hb dX3_number_36 (by decide) ?_
      refine lv_isub hx hb dX3_number_37 ?_
      refine mx_i (nI ac) (nI_pred ac) ?_
      exact mx_iret hx hb hr hlocks hP hS (⟨Or.inl ⟨hlt, rfl, hM3⟩, fun j h => ((hs3) j (by omega) (by omega)).trans (hs1 j h)⟩) dX3_number_38
    · skip
      refine lv_aload_n hx hb dX3_number_20 rfl (lv_at hl 0 rfl) ?_
      refine lv_bipush (v := 45) hx hb dX3_number_21 (by decide) ?_
      refine mx_ci (va_runV (As := [.int 45]) (rest := []) ⟨hx, hb, hml, hown, hts⟩ (c_Text_add l D ca n ad c1 (k := 8 + 2 * ac) (by omega) hTa 45 _) (cwV 1 hts (gV wm_161 wm_118 wm_119 wm_2 wm_120) rfl rfl rfl (by decide +kernel) ⟨Nat.le_of_ble_eq_true rfl, Nat.le_of_ble_eq_true rfl⟩) (mx_pv (C := RX2) (T := TX2) (N := 2) (ci := 2) hK hP hD hN (by omega : 8 + 2 * ac < n) hTa.cell rfl) rfl rfl hl.1 rfl (lv_room (Nat.le_of_ble_eq_true rfl)) dX3_number_23 ⟨Nat.zero_le _, Nat.zero_le _⟩) (Nat.le_refl _) hS (fun r2 c2 H locs hw2 hP hS => ?_)
      obtain ⟨-, -, hs2, hT2⟩ := hw2.resolve_right (fun h => absurd h.1 (by decide))
      refine lv_pop hx hb dX3_number_26 rfl ?_
      refine lv_aload_n hx hb dX3_number_27 rfl (lv_at hl 0 rfl) ?_
      refine lv_lload_n hx hb dX3_number_28 rfl (lv_at hl 2 rfl) ?_
      refine mx_cv (va_runV (As := [.long x]) (rest := []) ⟨hx, hb, hml, hown, hts⟩ (c_Text_dec l D ca n ad c2 (k := 8 + 2 * ac) (by omega) hT2 x (by simp; try omega) _) (cwV 1 hts (gV wm_162 wm_163 wm_164 wm_2 wm_165) rfl rfl rfl (by decide +kernel) ⟨Nat.le_of_ble_eq_true rfl, Nat.le_of_ble_eq_true rfl⟩) (mx_pv (C := RX2) (T := TX2) (N := 2) (ci := 2) hK hP hD hN (by omega : 8 + 2 * ac < n) hT2.cell rfl) rfl rfl hl.1 rfl (lv_room (Nat.le_of_ble_eq_true rfl)) dX3_number_29 ⟨Nat.zero_le _, Nat.zero_le _⟩) (Nat.le_refl _) hS (fun c3 H locs hw3 hP hS => ?_)
      obtain ⟨hs3, hT3⟩ := hw3
      have hT9 : tTx ca ad c3 (8 + 2 * ac) 40 (tNum x) := by unfold tNum; rw [if_pos (Int64.not_le.mp (fun h => hc2 ((lg_cmp_ge _ _).mpr h)))]; exact hT3
      have hM3 := hM1.arg hlt (hs2.tr hs3) hT9
      rw [bx_uu] at hM3
      refine lv_aload_n hx hb dX3_number_32 rfl (lv_at hl 1 rfl) ?_
      refine mx_get (ci := 3) (v := .int (nI (ac + 1))) (C := RX3) (T := TX3) (N := 9) hx hb hts inX3 hown hK hP (by omega : 0 < n) hM3.1 rfl 4 (by decide) (hts _ wm_81) (fun _ h9 => h9) rfl dX3_number_33 ?_
      refine lv_iconst (v := 1) hx hb dX3_number_36 (by decide) ?_
      refine lv_isub hx hb dX3_number_37 ?_
      refine mx_i (nI ac) (nI_pred ac) ?_
      exact mx_iret hx hb hr hlocks hP hS (⟨Or.inl ⟨hlt, rfl, hM3⟩, fun j h => ((hs2.tr hs3) j (by omega) (by omega)).trans (hs1 j h)⟩) dX3_number_38
  · skip
    have hge : 20 ≤ ac := by rcases hw with h9 | h9; exact absurd (h9.2.symm.trans hc) (by decide); exact h9.1
    refine lv_iconst (v := (-1)) hx hb dX3_number_7 (by decide) ?_
    exact mx_iret hx hb hr hlocks hP hS (⟨Or.inr ⟨hge, rfl, rfl⟩, fun j h => rfl⟩) dX3_number_8
set_option maxHeartbeats 4000000 in
set_option maxRecDepth 100000 in
/-- clear -/
theorem c_clear (l : Launch) (D : va_G) (ca : Nat → ClassId) (n : Nat) (ad : Nat → Nat) (c : Nat → va_E) {tp pt md dg : List Nat} {ar : Nat → List Nat} {ac tk : Nat} {f : fl4} {w kd bh : Int32} {v : Int64} (hn : 52 ≤ n) (hM : tMF ca ad c tp pt md ar ac tk f w kd bh v dg) : mVoid l yX3_clear wsX3_clear ({ frames := 0, cells := 0, slots := 0, locals := 0 }) [.ref (ad 0)] D (tTY ca) n ad c (fun c' => tMF ca ad c' tp pt md ar 0 tk f w kd bh v dg ∧ ∀ j, 52 ≤ j → c' j = c j) := by
  intro sz
  refine Met.ofW (cc := cX3_clear) (maxL := 1) (ret := none) (by decide) rfl ?_
  intro pg9 ev9 s m args below meth cd s₁ B hml hv
  obtain ⟨rfl, hsz, hP, hK, hD0, hN⟩ := hv
  have hx := B.exec
  have hb := B.bytes
  have hr := B.returns
  have hts := fun (w : Cond) (h : w ∈ WSa) => atoms_spec (ws := wsX3_clear) B.pre w (List.mem_cons_of_mem _ h)
  have hown : s.vm.findClass RX3 = some m.cls := findClass_of_methodNamed B.named
  have hlocks := B.notSynchronized
  subst hsz
  have hD : ∀ c, va_D (fun _ => True) (mw n ad c) := fun c' => mw_D hD0 c'
  have hS : va_S (mA n ad s.heap.size) s.heap s.heap [] := va_S.rf
  have hl := lv_entry ([.ref (ad 0)]) (n := 1) (Nat.le_of_ble_eq_true rfl)
  rw [lg_entry_eq]
  generalize (lg_sl ([.ref (ad 0)]) ++ List.replicate (1 - (lg_sl ([.ref (ad 0)])).length) Slot.unset).toArray = ls at hl ⊢
  have hl : lv_has ls 1 [(0, .ref (ad 0))] := hl
  refine lv_aload_n hx hb dX3_clear_0 rfl (lv_at hl 0 rfl) ?_
  refine lv_iconst (v := 0) hx hb dX3_clear_1 (by decide) ?_
  refine mx_i (nI 0) (nI_0.symm) ?_
  refine mx_put (ci := 3) (v := .int (nI 0)) (ty := .int) (C := RX3) (T := TX3) (N := 9) hx hb hts inX3 tyX3 tyX3_ok nmX3 hown hK hP hD hS (by omega : 0 < n) hM.1 rfl 4 (by decide) (hts _ wm_81) (fun _ h9 => h9) rfl (by decide +kernel) rfl rfl (Nat.le_of_ble_eq_true rfl) dX3_clear_2 (fun H locs hP hS => ?_)
  obtain ⟨c1, ec1⟩ : ∃ z : Nat → va_E, z = va_up c 0 (.inr (3, [.ref (ad 1), .ref (ad 3), .ref (ad 5), .ref (ad 7), .int (nI 0), .int (nI tk), .ref (ad 48), .ref (ad 49), .ref (ad 50)])) := ⟨_, rfl⟩
  have hP : va_P D vwCl (mw n ad c1) H := by rw [ec1]; exact hP
  have hsc1 : ∀ j, j ≠ 0 → c1 j = c j := fun j h => by rw [ec1]; exact va_up_ne _ _ h
  have hcc1 : c1 0 = .inr (3, [.ref (ad 1), .ref (ad 3), .ref (ad 5), .ref (ad 7), .int (nI 0), .int (nI tk), .ref (ad 48), .ref (ad 49), .ref (ad 50)]) := by rw [ec1]; exact va_up_self _ _ _
  exact mx_vret hx hb hr hlocks hP hS (⟨hM.cel hsc1 hcc1 (by omega) hM.2.2.2.2.2.2.2.2.2.2, fun j h => hsc1 j (by omega)⟩) dX3_clear_5
set_option maxHeartbeats 4000000 in
set_option maxRecDepth 100000 in
/-- madeAt -/
theorem c_madeAt (l : Launch) (D : va_G) (ca : Nat → ClassId) (n : Nat) (ad : Nat → Nat) (c : Nat → va_E) {tp pt md dg : List Nat} {ar : Nat → List Nat} {ac tk : Nat} {f : fl4} {w kd bh : Int32} {v : Int64} (hn : 52 ≤ n) (hM : tMF ca ad c tp pt md ar ac tk f w kd bh v dg) (x : Int32) : mInt l yX3_madeAt wsX3_madeAt ({ frames := 1, cells := 0, slots := 0, locals := 21 }) [.ref (ad 0), .int x] D (tTY ca) n ad c (fun r c' => r = tAtI md x ∧ c' = c) := by
  intro sz
  refine Met.ofW (cc := cX3_madeAt) (maxL := 2) (ret := (some .int)) (by decide) rfl ?_
  intro pg9 ev9 s m args below meth cd s₁ B hml hv
  obtain ⟨rfl, hsz, hP, hK, hD0, hN⟩ := hv
  have hx := B.exec
  have hb := B.bytes
  have hr := B.returns
  have hts := fun (w : Cond) (h : w ∈ WSa) => atoms_spec (ws := wsX3_madeAt) B.pre w (List.mem_cons_of_mem _ h)
  have hown : s.vm.findClass RX3 = some m.cls := findClass_of_methodNamed B.named
  have hlocks := B.notSynchronized
  subst hsz
  have hD : ∀ c, va_D (fun _ => True) (mw n ad c) := fun c' => mw_D hD0 c'
  have hS : va_S (mA n ad s.heap.size) s.heap s.heap [] := va_S.rf
  have hl := lv_entry ([.ref (ad 0), .int x]) (n := 2) (Nat.le_of_ble_eq_true rfl)
  rw [lg_entry_eq]
  generalize (lg_sl ([.ref (ad 0), .int x]) ++ List.replicate (2 - (lg_sl ([.ref (ad 0), .int x])).length) Slot.unset).toArray = ls at hl ⊢
  have hl : lv_has ls 2 [(0, .ref (ad 0)), (1, .int x)] := hl
  refine lv_aload_n hx hb dX3_madeAt_0 rfl (lv_at hl 0 rfl) ?_
  refine mx_get (ci := 3) (v := .ref (ad 5)) (C := RX3) (T := TX3) (N := 9) hx hb hts inX3 hown hK hP (by omega : 0 < n) hM.1 rfl 2 (by decide) (hts _ wm_79) (fun _ h9 => h9) rfl dX3_madeAt_1 ?_
  refine lv_iload_n hx hb dX3_madeAt_4 rfl (lv_at hl 1 rfl) ?_
  refine mx_ci (va_runV (As := [.int x]) (rest := []) ⟨hx, hb, hml, hown, hts⟩ (c_Text_at l D ca n ad c (k := 5) (by omega) hM.2.2.2.1 x _) (cwV 1 hts (gV wm_179 wm_142 wm_143 wm_2 wm_144) rfl rfl rfl (by decide +kernel) ⟨Nat.le_of_ble_eq_true rfl, Nat.le_of_ble_eq_true rfl⟩) (mx_pv (C := RX2) (T := TX2) (N := 2) (ci := 2) hK hP hD hN (by omega : 5 < n) hM.2.2.2.1.cell rfl) rfl rfl hl.1 rfl (lv_room (Nat.le_of_ble_eq_true rfl)) dX3_madeAt_5 ⟨Nat.zero_le _, Nat.zero_le _⟩) (Nat.le_refl _) hS (fun r c1 H locs hw hP hS => ?_)
  exact mx_iret hx hb hr hlocks hP hS (hw) dX3_madeAt_8
end
section
set_option maxHeartbeats 4000000 in
set_option maxRecDepth 100000 in
/-- addPadded -/
theorem c_padded (l : Launch) (D : va_G) (ca : Nat → ClassId) (n : Nat) (ad : Nat → Nat) (c : Nat → va_E) {tp pt md dg : List Nat} {ar : Nat → List Nat} {ac tk : Nat} {f : fl4} {wd : Nat} {kd bh : Int32} {v : Int64} (hn : 52 ≤ n) (hM : tMF ca ad c tp pt md ar ac tk f (nI wd) kd bh v dg) (hwd : wd ≤ 100000) (x : Int32) (z : Bool) {kb : Nat} {bd : List Nat} (hkb : kb + 1 < 52) (hB : tTx ca ad c kb 40 bd) (hdj : kb ≠ 5 ∧ kb ≠ 6 ∧ kb + 1 ≠ 5) : mInt l yX3_addPadded wsX3_addPadded ({ frames := 2, cells := 0, slots := 0, locals := 44 }) [.ref (ad 0), .int x, .ref (ad kb), .int (bI z)] D (tTY ca) n ad c (fun r c' => (md.length + (pad f.1 z wd (sgL x) bd).length ≤ 1024 ∧ r = 0 ∧ tMF ca ad c' tp pt (md ++ pad f.1 z wd (sgL x) bd) ar ac tk f (nI wd) kd bh v dg ∧ tSm c c' 5) ∨ (¬ md.length + (pad f.1 z wd (sgL x) bd).length ≤ 1024 ∧ r = -5 ∧ c' = c)) := by
  intro sz
  refine Met.ofW (cc := cX3_addPadded) (maxL := 7) (ret := (some .int)) (by decide) rfl ?_
  intro pg9 ev9 s m args below meth cd s₁ B hml hv
  obtain ⟨rfl, hsz, hP, hK, hD0, hN⟩ := hv
  have hx := B.exec
  have hb := B.bytes
  have hr := B.returns
  have hts := fun (w : Cond) (h : w ∈ WSa) => atoms_spec (ws := wsX3_addPadded) B.pre w (List.mem_cons_of_mem _ h)
  have hown : s.vm.findClass RX3 = some m.cls := findClass_of_methodNamed B.named
  have hlocks := B.notSynchronized
  subst hsz
  have hD : ∀ c, va_D (fun _ => True) (mw n ad c) := fun c' => mw_D hD0 c'
  have hS : va_S (mA n ad s.heap.size) s.heap s.heap [] := va_S.rf
  have hl := lv_entry ([.ref (ad 0), .int x, .ref (ad kb), .int (bI z)]) (n := 7) (Nat.le_of_ble_eq_true rfl)
  rw [lg_entry_eq]
  generalize (lg_sl ([.ref (ad 0), .int x, .ref (ad kb), .int (bI z)]) ++ List.replicate (7 - (lg_sl ([.ref (ad 0), .int x, .ref (ad kb), .int (bI z)])).length) Slot.unset).toArray = ls at hl ⊢
  have hl : lv_has ls 7 [(0, .ref (ad 0)), (1, .int x), (2, .ref (ad kb)), (3, .int (bI z))] := hl
  have hle5 := hM.2.2.2.1.le
  have hleb := hB.le
  refine lv_aload_n hx hb dX3_addPadded_0 rfl (lv_at hl 2 rfl) ?_
  refine mx_getN (ci := 2) (v := .int (nI bd.length)) (C := RX2) (T := TX2) (N := 2) hx hb hts inX2 hown hK hP (by omega : kb < n) hB.cell rfl 1 (by decide) (hN.1 _ nn_2) (fun _ h9 => h9) rfl dX3_addPadded_1 ?_
  refine lv_iload_n hx hb dX3_addPadded_4 rfl (lv_at hl 1 rfl) ?_
  refine lv_if_ne (tgt := 12) hx hb dX3_addPadded_5 (by decide) (fun hc => ?_) (fun hc => ?_)
  · skip
    have hx1 : ¬ x = 0 := hc
    have hsl1 : sgL x = [by8 x] := if_neg hx1
    have hsln : (sgL x).length = 1 := by rw [hsl1]; rfl
    refine lv_iconst (v := 1) hx hb dX3_addPadded_12 (by decide) ?_
    refine lv_iadd hx hb dX3_addPadded_13 ?_
    refine mx_i (nI (bd.length + (sgL x).length)) (by rw [hsl1]; exact nI_add _ _) ?_
    refine lv_istore (lv' := [(4, .int (nI (bd.length + (sgL x).length))), (0, .ref (ad 0)), (1, .int x), (2, .ref (ad kb)), (3, .int (bI z))]) hx hb dX3_addPadded_14 hl (by decide) rfl (fun ls hl => ?_)
    refine lv_iload hx hb dX3_addPadded_16 (lv_at hl 0 rfl) ?_
    refine lv_aload_n hx hb dX3_addPadded_18 rfl (lv_at hl 1 rfl) ?_
    refine mx_get (ci := 3) (v := .ref (ad 48)) (C := RX3) (T := TX3) (N := 9) hx hb hts inX3 hown hK hP (by omega : 0 < n) hM.1 rfl 6 (by decide) (hts _ wm_83) (fun _ h9 => h9) rfl dX3_addPadded_19 ?_
    refine mx_getN (ci := 1) (v := .int (nI wd)) (C := RX1) (T := TX1) (N := 7) hx hb hts inX1 hown hK hP (by omega : 48 < n) hM.2.2.2.2.2.2.1 rfl 4 (by decide) (hN.1 _ nn_5) (fun _ h9 => h9) rfl dX3_addPadded_22 ?_
    refine va_mmax hx hb (by rw [hml]; exact hl.1.symm) hown (hts _ wm_215) (hts _ wm_216) (hts _ wm_6) (hts _ wm_217) (Nat.le_of_ble_eq_true rfl) (Nat.le_of_ble_eq_true rfl) (Nat.zero_le _) (Nat.zero_le _) dX3_addPadded_25 ?_
    refine mx_i (nI (max (bd.length + (sgL x).length) wd)) (wh_max (by omega) (by omega)) ?_
    refine lv_istore (lv' := [(5, .int (nI (max (bd.length + (sgL x).length) wd))), (4, .int (nI (bd.length + (sgL x).length))), (0, .ref (ad 0)), (1, .int x), (2, .ref (ad kb)), (3, .int (bI z))]) hx hb dX3_addPadded_28 hl (by decide) rfl (fun ls hl => ?_)
    refine lv_aload_n hx hb dX3_addPadded_30 rfl (lv_at hl 2 rfl) ?_
    refine mx_get (ci := 3) (v := .ref (ad 5)) (C := RX3) (T := TX3) (N := 9) hx hb hts inX3 hown hK hP (by omega : 0 < n) hM.1 rfl 2 (by decide) (hts _ wm_79) (fun _ h9 => h9) rfl dX3_addPadded_31 ?_
    refine lv_iload hx hb dX3_addPadded_34 (lv_at hl 0 rfl) ?_
    refine mx_ci (va_runV (As := [.int (nI (max (bd.length + (sgL x).length) wd))]) (rest := []) ⟨hx, hb, hml, hown, hts⟩ (c_Text_has l D ca n ad c (k := 5) (by omega) hM.2.2.2.1 (nI (max (bd.length + (sgL x).length) wd)) _) (cwV 1 hts (gV wm_109 wm_110 wm_111 wm_2 wm_112) rfl rfl rfl (by decide +kernel) ⟨Nat.le_of_ble_eq_true rfl, Nat.le_of_ble_eq_true rfl⟩) (mx_pv (C := RX2) (T := TX2) (N := 2) (ci := 2) hK hP hD hN (by omega : 5 < n) hM.2.2.2.1.cell rfl) rfl rfl hl.1 rfl (lv_room (Nat.le_of_ble_eq_true rfl)) dX3_addPadded_36 ⟨Nat.zero_le _, Nat.zero_le _⟩) (Nat.le_refl _) hS (fun r c1 H locs hw hP hS => ?_)
    obtain ⟨hcE, hw⟩ := hw
    rw [hcE] at hP
    refine lv_if_ne (tgt := 45) hx hb dX3_addPadded_39 (by decide) (fun hc2 => ?_) (fun hc2 => ?_)
    · skip
      have hrm : md.length + max (bd.length + (sgL x).length) wd ≤ 1024 := by rcases hw with h | h; have := (nI_leI (by omega) (by omega)).mp h.1; omega; exact absurd h.2 hc2
      refine lv_iload hx hb dX3_addPadded_45 (lv_at hl 0 rfl) ?_
      refine lv_iload hx hb dX3_addPadded_47 (lv_at hl 1 rfl) ?_
      refine lv_isub hx hb dX3_addPadded_49 ?_
      refine mx_i (nI (max (bd.length + (sgL x).length) wd - (bd.length + (sgL x).length))) (pk_sub (Nat.le_max_left _ _)) ?_
      refine lv_istore (lv' := [(6, .int (nI (max (bd.length + (sgL x).length) wd - (bd.length + (sgL x).length)))), (5, .int (nI (max (bd.length + (sgL x).length) wd))), (4, .int (nI (bd.length + (sgL x).length))), (0, .ref (ad 0)), (1, .int x), (2, .ref (ad kb)), (3, .int (bI z))]) hx hb dX3_addPadded_50 hl (by decide) rfl (fun ls hl => ?_)
      refine lv_aload_n hx hb dX3_addPadded_52 rfl (lv_at hl 3 rfl) ?_
      refine mx_get (ci := 3) (v := .ref (ad 48)) (C := RX3) (T := TX3) (N := 9) hx hb hts inX3 hown hK hP (by omega : 0 < n) hM.1 rfl 6 (by decide) (hts _ wm_83) (fun _ h9 => h9) rfl dX3_addPadded_53 ?_
      refine mx_getN (ci := 1) (v := .int (bI f.1)) (C := RX1) (T := TX1) (N := 7) hx hb hts inX1 hown hK hP (by omega : 48 < n) hM.2.2.2.2.2.2.1 rfl 0 (by decide) (hN.1 _ nn_3) (fun _ h9 => h9) rfl dX3_addPadded_56 ?_
      refine lv_if_ne (tgt := 77) hx hb dX3_addPadded_59 (by decide) (fun hc3 => ?_) (fun hc3 => ?_)
      · skip
        have hLt : f.1 = true := bI_ne hc3
        refine lv_iload_n hx hb dX3_addPadded_77 rfl (lv_at hl 4 rfl) ?_
        refine lv_if_eq (tgt := 90) hx hb dX3_addPadded_78 (by decide) (fun hc9 => ?_) (fun hc9 => ?_)
        · skip
          exact absurd hc9 hx1
        · skip
          refine lv_aload_n hx hb dX3_addPadded_81 rfl (lv_at hl 3 rfl) ?_
          refine mx_get (ci := 3) (v := .ref (ad 5)) (C := RX3) (T := TX3) (N := 9) hx hb hts inX3 hown hK hP (by omega : 0 < n) hM.1 rfl 2 (by decide) (hts _ wm_79) (fun _ h9 => h9) rfl dX3_addPadded_82 ?_
          refine lv_iload_n hx hb dX3_addPadded_85 rfl (lv_at hl 4 rfl) ?_
          refine mx_ci (va_runV (As := [.int x]) (rest := []) ⟨hx, hb, hml, hown, hts⟩ (c_Text_add l D ca n ad c (k := 5) (by omega) hM.2.2.2.1 x _) (cwV 1 hts (gV wm_161 wm_118 wm_119 wm_2 wm_120) rfl rfl rfl (by decide +kernel) ⟨Nat.le_of_ble_eq_true rfl, Nat.le_of_ble_eq_true rfl⟩) (mx_pv (C := RX2) (T := TX2) (N := 2) (ci := 2) hK hP hD hN (by omega : 5 < n) hM.2.2.2.1.cell rfl) rfl rfl hl.1 rfl (lv_room (Nat.le_of_ble_eq_true rfl)) dX3_addPadded_86 ⟨Nat.zero_le _, Nat.zero_le _⟩) (Nat.le_refl _) hS (fun r1 c1 H locs hw1 hP hS => ?_)
          obtain ⟨-, -, hs1, hT1⟩ := hw1.resolve_right (fun h => by have h9 := h.1; (try simp only [List.length_append, List.length_replicate] at h9); omega)
          have hM1 := hM.made hs1 hT1
          have hB1 : tTx ca ad c1 kb 40 bd := hB.keep (hs1 _ hdj.1 hdj.2.1) (hs1 _ hdj.2.2 (by omega))
          refine lv_pop hx hb dX3_addPadded_89 rfl ?_
          refine lv_aload_n hx hb dX3_addPadded_90 rfl (lv_at hl 3 rfl) ?_
          refine mx_get (ci := 3) (v := .ref (ad 48)) (C := RX3) (T := TX3) (N := 9) hx hb hts inX3 hown hK hP (by omega : 0 < n) hM1.1 rfl 6 (by decide) (hts _ wm_83) (fun _ h9 => h9) rfl dX3_addPadded_91 ?_
          refine mx_getN (ci := 1) (v := .int (bI f.1)) (C := RX1) (T := TX1) (N := 7) hx hb hts inX1 hown hK hP (by omega : 48 < n) hM1.2.2.2.2.2.2.1 rfl 0 (by decide) (hN.1 _ nn_3) (fun _ h9 => h9) rfl dX3_addPadded_94 ?_
          refine lv_if_ne (tgt := 115) hx hb dX3_addPadded_97 (by decide) (fun hc9 => ?_) (fun hc9 => ?_)
          · skip
            refine lv_aload_n hx hb dX3_addPadded_115 rfl (lv_at hl 3 rfl) ?_
            refine mx_get (ci := 3) (v := .ref (ad 5)) (C := RX3) (T := TX3) (N := 9) hx hb hts inX3 hown hK hP (by omega : 0 < n) hM1.1 rfl 2 (by decide) (hts _ wm_79) (fun _ h9 => h9) rfl dX3_addPadded_116 ?_
            refine lv_aload_n hx hb dX3_addPadded_119 rfl (lv_at hl 5 rfl) ?_
            refine mx_cv (va_runV (As := [.ref (ad kb)]) (rest := []) ⟨hx, hb, hml, hown, hts⟩ (c_Text_text l D ca n ad c1 (k := 5) (by omega) hM1.2.2.2.1 (k2 := kb) (by omega) hB1 (by omega) (by (try simp only [List.length_append, List.length_replicate, List.length_cons, List.length_nil]); omega) _) (cwV 1 hts (gV wm_137 wm_138 wm_139 wm_2 wm_140) rfl rfl rfl (by decide +kernel) ⟨Nat.le_of_ble_eq_true rfl, Nat.le_of_ble_eq_true rfl⟩) (mx_pv (C := RX2) (T := TX2) (N := 2) (ci := 2) hK hP hD hN (by omega : 5 < n) hM1.2.2.2.1.cell rfl) rfl rfl hl.1 rfl (lv_room (Nat.le_of_ble_eq_true rfl)) dX3_addPadded_120 ⟨Nat.zero_le _, Nat.zero_le _⟩) (Nat.le_refl _) hS (fun c2 H locs hw2 hP hS => ?_)
            obtain ⟨hs2, hT2⟩ := hw2
            have hM2 := hM1.made hs2 hT2
            have hB2 : tTx ca ad c2 kb 40 bd := hB1.keep (hs2 _ hdj.1 hdj.2.1) (hs2 _ hdj.2.2 (by omega))
            refine lv_aload_n hx hb dX3_addPadded_123 rfl (lv_at hl 3 rfl) ?_
            refine mx_get (ci := 3) (v := .ref (ad 48)) (C := RX3) (T := TX3) (N := 9) hx hb hts inX3 hown hK hP (by omega : 0 < n) hM2.1 rfl 6 (by decide) (hts _ wm_83) (fun _ h9 => h9) rfl dX3_addPadded_124 ?_
            refine mx_getN (ci := 1) (v := .int (bI f.1)) (C := RX1) (T := TX1) (N := 7) hx hb hts inX1 hown hK hP (by omega : 48 < n) hM2.2.2.2.2.2.2.1 rfl 0 (by decide) (hN.1 _ nn_3) (fun _ h9 => h9) rfl dX3_addPadded_127 ?_
            refine lv_if_eq (tgt := 144) hx hb dX3_addPadded_130 (by decide) (fun hc9 => ?_) (fun hc9 => ?_)
            · skip
              exact absurd (bI_eq hc9) (by rw [hLt]; decide)
            · skip
              refine lv_aload_n hx hb dX3_addPadded_133 rfl (lv_at hl 3 rfl) ?_
              refine mx_get (ci := 3) (v := .ref (ad 5)) (C := RX3) (T := TX3) (N := 9) hx hb hts inX3 hown hK hP (by omega : 0 < n) hM2.1 rfl 2 (by decide) (hts _ wm_79) (fun _ h9 => h9) rfl dX3_addPadded_134 ?_
              refine lv_bipush (v := 32) hx hb dX3_addPadded_137 (by decide) ?_
              refine lv_iload hx hb dX3_addPadded_139 (lv_at hl 0 rfl) ?_
              refine mx_cv (va_runV (As := [.int 32, .int (nI (max (bd.length + (sgL x).length) wd - (bd.length + (sgL x).length)))]) (rest := []) ⟨hx, hb, hml, hown, hts⟩ (c_Text_many l D ca n ad c2 (k := 5) (by omega) hM2.2.2.2.1 32 (nI (max (bd.length + (sgL x).length) wd - (bd.length + (sgL x).length))) (max (bd.length + (sgL x).length) wd - (bd.length + (sgL x).length)) rfl (by (try simp only [List.length_append, List.length_replicate, List.length_cons, List.length_nil]); omega) _) (cwV 2 hts (gV wm_218 wm_219 wm_220 wm_2 wm_221) rfl rfl rfl (by decide +kernel) ⟨Nat.le_of_ble_eq_true rfl, Nat.le_of_ble_eq_true rfl⟩) (mx_pv (C := RX2) (T := TX2) (N := 2) (ci := 2) hK hP hD hN (by omega : 5 < n) hM2.2.2.2.1.cell rfl) rfl rfl hl.1 rfl (lv_room (Nat.le_of_ble_eq_true rfl)) dX3_addPadded_141 ⟨Nat.zero_le _, Nat.zero_le _⟩) (Nat.le_refl _) hS (fun c3 H locs hw3 hP hS => ?_)
              obtain ⟨hs3, hT3⟩ := hw3
              have hM3 := hM2.made hs3 hT3
              have hB3 : tTx ca ad c3 kb 40 bd := hB2.keep (hs3 _ hdj.1 hdj.2.1) (hs3 _ hdj.2.2 (by omega))
              refine lv_iconst (v := 0) hx hb dX3_addPadded_144 (by decide) ?_
              have hmd : md ++ pad f.1 z wd (sgL x) bd = md ++ [by8 x] ++ bd ++ List.replicate (max (bd.length + (sgL x).length) wd - (bd.length + (sgL x).length)) (by8 32) := by
                unfold pad
                rw [if_pos hLt, hsl1]
                simp only [List.append_assoc, List.nil_append, show by8 32 = 32 from rfl, show by8 48 = 48 from rfl]
              exact mx_iret hx hb hr hlocks hP hS (Or.inl ⟨by rw [pad_len]; exact hrm, rfl, by rw [hmd]; exact hM3, ((hs1).tr hs2).tr hs3⟩) dX3_addPadded_145
          · skip
            exact absurd (bI_eq hc9) (by rw [hLt]; decide)
      · skip
        have hLf : f.1 = false := bI_eq hc3
        refine lv_iload_n hx hb dX3_addPadded_62 rfl (lv_at hl 6 rfl) ?_
        refine lv_if_ne (tgt := 77) hx hb dX3_addPadded_63 (by decide) (fun hc4 => ?_) (fun hc4 => ?_)
        · skip
          have hZt : z = true := bI_ne hc4
          refine lv_iload_n hx hb dX3_addPadded_77 rfl (lv_at hl 4 rfl) ?_
          refine lv_if_eq (tgt := 90) hx hb dX3_addPadded_78 (by decide) (fun hc9 => ?_) (fun hc9 => ?_)
          · skip
            exact absurd hc9 hx1
          · skip
            refine lv_aload_n hx hb dX3_addPadded_81 rfl (lv_at hl 3 rfl) ?_
            refine mx_get (ci := 3) (v := .ref (ad 5)) (C := RX3) (T := TX3) (N := 9) hx hb hts inX3 hown hK hP (by omega : 0 < n) hM.1 rfl 2 (by decide) (hts _ wm_79) (fun _ h9 => h9) rfl dX3_addPadded_82 ?_
            refine lv_iload_n hx hb dX3_addPadded_85 rfl (lv_at hl 4 rfl) ?_
            refine mx_ci (va_runV (As := [.int x]) (rest := []) ⟨hx, hb, hml, hown, hts⟩ (c_Text_add l D ca n ad c (k := 5) (by omega) hM.2.2.2.1 x _) (cwV 1 hts (gV wm_161 wm_118 wm_119 wm_2 wm_120) rfl rfl rfl (by decide +kernel) ⟨Nat.le_of_ble_eq_true rfl, Nat.le_of_ble_eq_true rfl⟩) (mx_pv (C := RX2) (T := TX2) (N := 2) (ci := 2) hK hP hD hN (by omega : 5 < n) hM.2.2.2.1.cell rfl) rfl rfl hl.1 rfl (lv_room (Nat.le_of_ble_eq_true rfl)) dX3_addPadded_86 ⟨Nat.zero_le _, Nat.zero_le _⟩) (Nat.le_refl _) hS (fun r1 c1 H locs hw1 hP hS => ?_)
            obtain ⟨-, -, hs1, hT1⟩ := hw1.resolve_right (fun h => by have h9 := h.1; (try simp only [List.length_append, List.length_replicate] at h9); omega)
            have hM1 := hM.made hs1 hT1
            have hB1 : tTx ca ad c1 kb 40 bd := hB.keep (hs1 _ hdj.1 hdj.2.1) (hs1 _ hdj.2.2 (by omega))
            refine lv_pop hx hb dX3_addPadded_89 rfl ?_
            refine lv_aload_n hx hb dX3_addPadded_90 rfl (lv_at hl 3 rfl) ?_
            refine mx_get (ci := 3) (v := .ref (ad 48)) (C := RX3) (T := TX3) (N := 9) hx hb hts inX3 hown hK hP (by omega : 0 < n) hM1.1 rfl 6 (by decide) (hts _ wm_83) (fun _ h9 => h9) rfl dX3_addPadded_91 ?_
            refine mx_getN (ci := 1) (v := .int (bI f.1)) (C := RX1) (T := TX1) (N := 7) hx hb hts inX1 hown hK hP (by omega : 48 < n) hM1.2.2.2.2.2.2.1 rfl 0 (by decide) (hN.1 _ nn_3) (fun _ h9 => h9) rfl dX3_addPadded_94 ?_
            refine lv_if_ne (tgt := 115) hx hb dX3_addPadded_97 (by decide) (fun hc9 => ?_) (fun hc9 => ?_)
            · skip
              exact absurd (bI_ne hc9) (by rw [hLf]; decide)
            · skip
              refine lv_iload_n hx hb dX3_addPadded_100 rfl (lv_at hl 6 rfl) ?_
              refine lv_if_eq (tgt := 115) hx hb dX3_addPadded_101 (by decide) (fun hc9 => ?_) (fun hc9 => ?_)
              · skip
                exact absurd (bI_eq hc9) (by rw [hZt]; decide)
              · skip
                refine lv_aload_n hx hb dX3_addPadded_104 rfl (lv_at hl 3 rfl) ?_
                refine mx_get (ci := 3) (v := .ref (ad 5)) (C := RX3) (T := TX3) (N := 9) hx hb hts inX3 hown hK hP (by omega : 0 < n) hM1.1 rfl 2 (by decide) (hts _ wm_79) (fun _ h9 => h9) rfl dX3_addPadded_105 ?_
                refine lv_bipush (v := 48) hx hb dX3_addPadded_108 (by decide) ?_
                refine lv_iload hx hb dX3_addPadded_110 (lv_at hl 0 rfl) ?_
                refine mx_cv (va_runV (As := [.int 48, .int (nI (max (bd.length + (sgL x).length) wd - (bd.length + (sgL x).length)))]) (rest := []) ⟨hx, hb, hml, hown, hts⟩ (c_Text_many l D ca n ad c1 (k := 5) (by omega) hM1.2.2.2.1 48 (nI (max (bd.length + (sgL x).length) wd - (bd.length + (sgL x).length))) (max (bd.length + (sgL x).length) wd - (bd.length + (sgL x).length)) rfl (by (try simp only [List.length_append, List.length_replicate, List.length_cons, List.length_nil]); omega) _) (cwV 2 hts (gV wm_218 wm_219 wm_220 wm_2 wm_221) rfl rfl rfl (by decide +kernel) ⟨Nat.le_of_ble_eq_true rfl, Nat.le_of_ble_eq_true rfl⟩) (mx_pv (C := RX2) (T := TX2) (N := 2) (ci := 2) hK hP hD hN (by omega : 5 < n) hM1.2.2.2.1.cell rfl) rfl rfl hl.1 rfl (lv_room (Nat.le_of_ble_eq_true rfl)) dX3_addPadded_112 ⟨Nat.zero_le _, Nat.zero_le _⟩) (Nat.le_refl _) hS (fun c2 H locs hw2 hP hS => ?_)
                obtain ⟨hs2, hT2⟩ := hw2
                have hM2 := hM1.made hs2 hT2
                have hB2 : tTx ca ad c2 kb 40 bd := hB1.keep (hs2 _ hdj.1 hdj.2.1) (hs2 _ hdj.2.2 (by omega))
                refine lv_aload_n hx hb dX3_addPadded_115 rfl (lv_at hl 3 rfl) ?_
                refine mx_get (ci := 3) (v := .ref (ad 5)) (C := RX3) (T := TX3) (N := 9) hx hb hts inX3 hown hK hP (by omega : 0 < n) hM2.1 rfl 2 (by decide) (hts _ wm_79) (fun _ h9 => h9) rfl dX3_addPadded_116 ?_
                refine lv_aload_n hx hb dX3_addPadded_119 rfl (lv_at hl 5 rfl) ?_
                refine mx_cv (va_runV (As := [.ref (ad kb)]) (rest := []) ⟨hx, hb, hml, hown, hts⟩ (c_Text_text l D ca n ad c2 (k := 5) (by omega) hM2.2.2.2.1 (k2 := kb) (by omega) hB2 (by omega) (by (try simp only [List.length_append, List.length_replicate, List.length_cons, List.length_nil]); omega) _) (cwV 1 hts (gV wm_137 wm_138 wm_139 wm_2 wm_140) rfl rfl rfl (by decide +kernel) ⟨Nat.le_of_ble_eq_true rfl, Nat.le_of_ble_eq_true rfl⟩) (mx_pv (C := RX2) (T := TX2) (N := 2) (ci := 2) hK hP hD hN (by omega : 5 < n) hM2.2.2.2.1.cell rfl) rfl rfl hl.1 rfl (lv_room (Nat.le_of_ble_eq_true rfl)) dX3_addPadded_120 ⟨Nat.zero_le _, Nat.zero_le _⟩) (Nat.le_refl _) hS (fun c3 H locs hw3 hP hS => ?_)
                obtain ⟨hs3, hT3⟩ := hw3
                have hM3 := hM2.made hs3 hT3
                have hB3 : tTx ca ad c3 kb 40 bd := hB2.keep (hs3 _ hdj.1 hdj.2.1) (hs3 _ hdj.2.2 (by omega))
                refine lv_aload_n hx hb dX3_addPadded_123 rfl (lv_at hl 3 rfl) ?_
                refine mx_get (ci := 3) (v := .ref (ad 48)) (C := RX3) (T := TX3) (N := 9) hx hb hts inX3 hown hK hP (by omega : 0 < n) hM3.1 rfl 6 (by decide) (hts _ wm_83) (fun _ h9 => h9) rfl dX3_addPadded_124 ?_
                refine mx_getN (ci := 1) (v := .int (bI f.1)) (C := RX1) (T := TX1) (N := 7) hx hb hts inX1 hown hK hP (by omega : 48 < n) hM3.2.2.2.2.2.2.1 rfl 0 (by decide) (hN.1 _ nn_3) (fun _ h9 => h9) rfl dX3_addPadded_127 ?_
                refine lv_if_eq (tgt := 144) hx hb dX3_addPadded_130 (by decide) (fun hc9 => ?_) (fun hc9 => ?_)
                · skip
                  refine lv_iconst (v := 0) hx hb dX3_addPadded_144 (by decide) ?_
                  have hmd : md ++ pad f.1 z wd (sgL x) bd = md ++ [by8 x] ++ List.replicate (max (bd.length + (sgL x).length) wd - (bd.length + (sgL x).length)) (by8 48) ++ bd := by
                    unfold pad
                    rw [if_neg (by rw [hLf]; decide), if_pos hZt, hsl1]
                    simp only [List.append_assoc, List.nil_append, show by8 32 = 32 from rfl, show by8 48 = 48 from rfl]
                  exact mx_iret hx hb hr hlocks hP hS (Or.inl ⟨by rw [pad_len]; exact hrm, rfl, by rw [hmd]; exact hM3, ((hs1).tr hs2).tr hs3⟩) dX3_addPadded_145
                · skip
                  exact absurd (bI_ne hc9) (by rw [hLf]; decide)
        · skip
          have hZf : z = false := bI_eq hc4
          refine lv_aload_n hx hb dX3_addPadded_66 rfl (lv_at hl 3 rfl) ?_
          refine mx_get (ci := 3) (v := .ref (ad 5)) (C := RX3) (T := TX3) (N := 9) hx hb hts inX3 hown hK hP (by omega : 0 < n) hM.1 rfl 2 (by decide) (hts _ wm_79) (fun _ h9 => h9) rfl dX3_addPadded_67 ?_
          refine lv_bipush (v := 32) hx hb dX3_addPadded_70 (by decide) ?_
          refine lv_iload hx hb dX3_addPadded_72 (lv_at hl 0 rfl) ?_
          refine mx_cv (va_runV (As := [.int 32, .int (nI (max (bd.length + (sgL x).length) wd - (bd.length + (sgL x).length)))]) (rest := []) ⟨hx, hb, hml, hown, hts⟩ (c_Text_many l D ca n ad c (k := 5) (by omega) hM.2.2.2.1 32 (nI (max (bd.length + (sgL x).length) wd - (bd.length + (sgL x).length))) (max (bd.length + (sgL x).length) wd - (bd.length + (sgL x).length)) rfl (by (try simp only [List.length_append, List.length_replicate, List.length_cons, List.length_nil]); omega) _) (cwV 2 hts (gV wm_218 wm_219 wm_220 wm_2 wm_221) rfl rfl rfl (by decide +kernel) ⟨Nat.le_of_ble_eq_true rfl, Nat.le_of_ble_eq_true rfl⟩) (mx_pv (C := RX2) (T := TX2) (N := 2) (ci := 2) hK hP hD hN (by omega : 5 < n) hM.2.2.2.1.cell rfl) rfl rfl hl.1 rfl (lv_room (Nat.le_of_ble_eq_true rfl)) dX3_addPadded_74 ⟨Nat.zero_le _, Nat.zero_le _⟩) (Nat.le_refl _) hS (fun c1 H locs hw1 hP hS => ?_)
          obtain ⟨hs1, hT1⟩ := hw1
          have hM1 := hM.made hs1 hT1
          have hB1 : tTx ca ad c1 kb 40 bd := hB.keep (hs1 _ hdj.1 hdj.2.1) (hs1 _ hdj.2.2 (by omega))
          refine lv_iload_n hx hb dX3_addPadded_77 rfl (lv_at hl 4 rfl) ?_
          refine lv_if_eq (tgt := 90) hx hb dX3_addPadded_78 (by decide) (fun hc9 => ?_) (fun hc9 => ?_)
          · skip
            exact absurd hc9 hx1
          · skip
            refine lv_aload_n hx hb dX3_addPadded_81 rfl (lv_at hl 3 rfl) ?_
            refine mx_get (ci := 3) (v := .ref (ad 5)) (C := RX3) (T := TX3) (N := 9) hx hb hts inX3 hown hK hP (by omega : 0 < n) hM1.1 rfl 2 (by decide) (hts _ wm_79) (fun _ h9 => h9) rfl dX3_addPadded_82 ?_
            refine lv_iload_n hx hb dX3_addPadded_85 rfl (lv_at hl 4 rfl) ?_
            refine mx_ci (va_runV (As := [.int x]) (rest := []) ⟨hx, hb, hml, hown, hts⟩ (c_Text_add l D ca n ad c1 (k := 5) (by omega) hM1.2.2.2.1 x _) (cwV 1 hts (gV wm_161 wm_118 wm_119 wm_2 wm_120) rfl rfl rfl (by decide +kernel) ⟨Nat.le_of_ble_eq_true rfl, Nat.le_of_ble_eq_true rfl⟩) (mx_pv (C := RX2) (T := TX2) (N := 2) (ci := 2) hK hP hD hN (by omega : 5 < n) hM1.2.2.2.1.cell rfl) rfl rfl hl.1 rfl (lv_room (Nat.le_of_ble_eq_true rfl)) dX3_addPadded_86 ⟨Nat.zero_le _, Nat.zero_le _⟩) (Nat.le_refl _) hS (fun r2 c2 H locs hw2 hP hS => ?_)
            obtain ⟨-, -, hs2, hT2⟩ := hw2.resolve_right (fun h => by have h9 := h.1; (try simp only [List.length_append, List.length_replicate] at h9); omega)
            have hM2 := hM1.made hs2 hT2
            have hB2 : tTx ca ad c2 kb 40 bd := hB1.keep (hs2 _ hdj.1 hdj.2.1) (hs2 _ hdj.2.2 (by omega))
            refine lv_pop hx hb dX3_addPadded_89 rfl ?_
            refine lv_aload_n hx hb dX3_addPadded_90 rfl (lv_at hl 3 rfl) ?_
            refine mx_get (ci := 3) (v := .ref (ad 48)) (C := RX3) (T := TX3) (N := 9) hx hb hts inX3 hown hK hP (by omega : 0 < n) hM2.1 rfl 6 (by decide) (hts _ wm_83) (fun _ h9 => h9) rfl dX3_addPadded_91 ?_
            refine mx_getN (ci := 1) (v := .int (bI f.1)) (C := RX1) (T := TX1) (N := 7) hx hb hts inX1 hown hK hP (by omega : 48 < n) hM2.2.2.2.2.2.2.1 rfl 0 (by decide) (hN.1 _ nn_3) (fun _ h9 => h9) rfl dX3_addPadded_94 ?_
            refine lv_if_ne (tgt := 115) hx hb dX3_addPadded_97 (by decide) (fun hc9 => ?_) (fun hc9 => ?_)
            · skip
              exact absurd (bI_ne hc9) (by rw [hLf]; decide)
            · skip
              refine lv_iload_n hx hb dX3_addPadded_100 rfl (lv_at hl 6 rfl) ?_
              refine lv_if_eq (tgt := 115) hx hb dX3_addPadded_101 (by decide) (fun hc9 => ?_) (fun hc9 => ?_)
              · skip
                refine lv_aload_n hx hb dX3_addPadded_115 rfl (lv_at hl 3 rfl) ?_
                refine mx_get (ci := 3) (v := .ref (ad 5)) (C := RX3) (T := TX3) (N := 9) hx hb hts inX3 hown hK hP (by omega : 0 < n) hM2.1 rfl 2 (by decide) (hts _ wm_79) (fun _ h9 => h9) rfl dX3_addPadded_116 ?_
                refine lv_aload_n hx hb dX3_addPadded_119 rfl (lv_at hl 5 rfl) ?_
                refine mx_cv (va_runV (As := [.ref (ad kb)]) (rest := []) ⟨hx, hb, hml, hown, hts⟩ (c_Text_text l D ca n ad c2 (k := 5) (by omega) hM2.2.2.2.1 (k2 := kb) (by omega) hB2 (by omega) (by (try simp only [List.length_append, List.length_replicate, List.length_cons, List.length_nil]); omega) _) (cwV 1 hts (gV wm_137 wm_138 wm_139 wm_2 wm_140) rfl rfl rfl (by decide +kernel) ⟨Nat.le_of_ble_eq_true rfl, Nat.le_of_ble_eq_true rfl⟩) (mx_pv (C := RX2) (T := TX2) (N := 2) (ci := 2) hK hP hD hN (by omega : 5 < n) hM2.2.2.2.1.cell rfl) rfl rfl hl.1 rfl (lv_room (Nat.le_of_ble_eq_true rfl)) dX3_addPadded_120 ⟨Nat.zero_le _, Nat.zero_le _⟩) (Nat.le_refl _) hS (fun c3 H locs hw3 hP hS => ?_)
                obtain ⟨hs3, hT3⟩ := hw3
                have hM3 := hM2.made hs3 hT3
                have hB3 : tTx ca ad c3 kb 40 bd := hB2.keep (hs3 _ hdj.1 hdj.2.1) (hs3 _ hdj.2.2 (by omega))
                refine lv_aload_n hx hb dX3_addPadded_123 rfl (lv_at hl 3 rfl) ?_
                refine mx_get (ci := 3) (v := .ref (ad 48)) (C := RX3) (T := TX3) (N := 9) hx hb hts inX3 hown hK hP (by omega : 0 < n) hM3.1 rfl 6 (by decide) (hts _ wm_83) (fun _ h9 => h9) rfl dX3_addPadded_124 ?_
                refine mx_getN (ci := 1) (v := .int (bI f.1)) (C := RX1) (T := TX1) (N := 7) hx hb hts inX1 hown hK hP (by omega : 48 < n) hM3.2.2.2.2.2.2.1 rfl 0 (by decide) (hN.1 _ nn_3) (fun _ h9 => h9) rfl dX3_addPadded_127 ?_
                refine lv_if_eq (tgt := 144) hx hb dX3_addPadded_130 (by decide) (fun hc9 => ?_) (fun hc9 => ?_)
                · skip
                  refine lv_iconst (v := 0) hx hb dX3_addPadded_144 (by decide) ?_
                  have hmd : md ++ pad f.1 z wd (sgL x) bd = md ++ List.replicate (max (bd.length + (sgL x).length) wd - (bd.length + (sgL x).length)) (by8 32) ++ [by8 x] ++ bd := by
                    unfold pad
                    rw [if_neg (by rw [hLf]; decide), if_neg (by rw [hZf]; decide), hsl1]
                    simp only [List.append_assoc, List.nil_append, show by8 32 = 32 from rfl, show by8 48 = 48 from rfl]
                  exact mx_iret hx hb hr hlocks hP hS (Or.inl ⟨by rw [pad_len]; exact hrm, rfl, by rw [hmd]; exact hM3, ((hs1).tr hs2).tr hs3⟩) dX3_addPadded_145
                · skip
                  exact absurd (bI_ne hc9) (by rw [hLf]; decide)
              · skip
                exact absurd (bI_ne hc9) (by rw [hZf]; decide)
    · skip
      refine lv_bipush (v := (-5)) hx hb dX3_addPadded_42 (by decide) ?_
      exact mx_iret hx hb hr hlocks hP hS (Or.inr ⟨by rw [pad_len]; rcases hw with h | h; exact absurd (h.2.symm.trans hc2) (by decide); have := (nI_ltI (by omega) (by omega)).mp h.1; omega, rfl, rfl⟩) dX3_addPadded_44
  · skip
    have hx0 : x = 0 := hc
    have hsl0 : sgL x = [] := if_pos hx0
    have hsln : (sgL x).length = 0 := by rw [hsl0]; rfl
    refine lv_iconst (v := 0) hx hb dX3_addPadded_8 (by decide) ?_
    refine lv_goto (tgt := 13) hx hb dX3_addPadded_9 (by decide) ?_
    refine lv_iadd hx hb dX3_addPadded_13 ?_
    refine mx_i (nI (bd.length + (sgL x).length)) (by rw [hsl0]; exact nI_add _ 0) ?_
    refine lv_istore (lv' := [(4, .int (nI (bd.length + (sgL x).length))), (0, .ref (ad 0)), (1, .int x), (2, .ref (ad kb)), (3, .int (bI z))]) hx hb dX3_addPadded_14 hl (by decide) rfl (fun ls hl => ?_)
    refine lv_iload hx hb dX3_addPadded_16 (lv_at hl 0 rfl) ?_
    refine lv_aload_n hx hb dX3_addPadded_18 rfl (lv_at hl 1 rfl) ?_
    refine mx_get (ci := 3) (v := .ref (ad 48)) (C := RX3) (T := TX3) (N := 9) hx hb hts inX3 hown hK hP (by omega : 0 < n) hM.1 rfl 6 (by decide) (hts _ wm_83) (fun _ h9 => h9) rfl dX3_addPadded_19 ?_
    refine mx_getN (ci := 1) (v := .int (nI wd)) (C := RX1) (T := TX1) (N := 7) hx hb hts inX1 hown hK hP (by omega : 48 < n) hM.2.2.2.2.2.2.1 rfl 4 (by decide) (hN.1 _ nn_5) (fun _ h9 => h9) rfl dX3_addPadded_22 ?_
    refine va_mmax hx hb (by rw [hml]; exact hl.1.symm) hown (hts _ wm_215) (hts _ wm_216) (hts _ wm_6) (hts _ wm_217) (Nat.le_of_ble_eq_true rfl) (Nat.le_of_ble_eq_true rfl) (Nat.zero_le _) (Nat.zero_le _) dX3_addPadded_25 ?_
    refine mx_i (nI (max (bd.length + (sgL x).length) wd)) (wh_max (by omega) (by omega)) ?_
    refine lv_istore (lv' := [(5, .int (nI (max (bd.length + (sgL x).length) wd))), (4, .int (nI (bd.length + (sgL x).length))), (0, .ref (ad 0)), (1, .int x), (2, .ref (ad kb)), (3, .int (bI z))]) hx hb dX3_addPadded_28 hl (by decide) rfl (fun ls hl => ?_)
    refine lv_aload_n hx hb dX3_addPadded_30 rfl (lv_at hl 2 rfl) ?_
    refine mx_get (ci := 3) (v := .ref (ad 5)) (C := RX3) (T := TX3) (N := 9) hx hb hts inX3 hown hK hP (by omega : 0 < n) hM.1 rfl 2 (by decide) (hts _ wm_79) (fun _ h9 => h9) rfl dX3_addPadded_31 ?_
    refine lv_iload hx hb dX3_addPadded_34 (lv_at hl 0 rfl) ?_
    refine mx_ci (va_runV (As := [.int (nI (max (bd.length + (sgL x).length) wd))]) (rest := []) ⟨hx, hb, hml, hown, hts⟩ (c_Text_has l D ca n ad c (k := 5) (by omega) hM.2.2.2.1 (nI (max (bd.length + (sgL x).length) wd)) _) (cwV 1 hts (gV wm_109 wm_110 wm_111 wm_2 wm_112) rfl rfl rfl (by decide +kernel) ⟨Nat.le_of_ble_eq_true rfl, Nat.le_of_ble_eq_true rfl⟩) (mx_pv (C := RX2) (T := TX2) (N := 2) (ci := 2) hK hP hD hN (by omega : 5 < n) hM.2.2.2.1.cell rfl) rfl rfl hl.1 rfl (lv_room (Nat.le_of_ble_eq_true rfl)) dX3_addPadded_36 ⟨Nat.zero_le _, Nat.zero_le _⟩) (Nat.le_refl _) hS (fun r c1 H locs hw hP hS => ?_)
    obtain ⟨hcE, hw⟩ := hw
    rw [hcE] at hP
    refine lv_if_ne (tgt := 45) hx hb dX3_addPadded_39 (by decide) (fun hc2 => ?_) (fun hc2 => ?_)
    · skip
      have hrm : md.length + max (bd.length + (sgL x).length) wd ≤ 1024 := by rcases hw with h | h; have := (nI_leI (by omega) (by omega)).mp h.1; omega; exact absurd h.2 hc2
      refine lv_iload hx hb dX3_addPadded_45 (lv_at hl 0 rfl) ?_
      refine lv_iload hx hb dX3_addPadded_47 (lv_at hl 1 rfl) ?_
      refine lv_isub hx hb dX3_addPadded_49 ?_
      refine mx_i (nI (max (bd.length + (sgL x).length) wd - (bd.length + (sgL x).length))) (pk_sub (Nat.le_max_left _ _)) ?_
      refine lv_istore (lv' := [(6, .int (nI (max (bd.length + (sgL x).length) wd - (bd.length + (sgL x).length)))), (5, .int (nI (max (bd.length + (sgL x).length) wd))), (4, .int (nI (bd.length + (sgL x).length))), (0, .ref (ad 0)), (1, .int x), (2, .ref (ad kb)), (3, .int (bI z))]) hx hb dX3_addPadded_50 hl (by decide) rfl (fun ls hl => ?_)
      refine lv_aload_n hx hb dX3_addPadded_52 rfl (lv_at hl 3 rfl) ?_
      refine mx_get (ci := 3) (v := .ref (ad 48)) (C := RX3) (T := TX3) (N := 9) hx hb hts inX3 hown hK hP (by omega : 0 < n) hM.1 rfl 6 (by decide) (hts _ wm_83) (fun _ h9 => h9) rfl dX3_addPadded_53 ?_
      refine mx_getN (ci := 1) (v := .int (bI f.1)) (C := RX1) (T := TX1) (N := 7) hx hb hts inX1 hown hK hP (by omega : 48 < n) hM.2.2.2.2.2.2.1 rfl 0 (by decide) (hN.1 _ nn_3) (fun _ h9 => h9) rfl dX3_addPadded_56 ?_
      refine lv_if_ne (tgt := 77) hx hb dX3_addPadded_59 (by decide) (fun hc3 => ?_) (fun hc3 => ?_)
      · skip
        have hLt : f.1 = true := bI_ne hc3
        refine lv_iload_n hx hb dX3_addPadded_77 rfl (lv_at hl 4 rfl) ?_
        refine lv_if_eq (tgt := 90) hx hb dX3_addPadded_78 (by decide) (fun hc9 => ?_) (fun hc9 => ?_)
        · skip
          refine lv_aload_n hx hb dX3_addPadded_90 rfl (lv_at hl 3 rfl) ?_
          refine mx_get (ci := 3) (v := .ref (ad 48)) (C := RX3) (T := TX3) (N := 9) hx hb hts inX3 hown hK hP (by omega : 0 < n) hM.1 rfl 6 (by decide) (hts _ wm_83) (fun _ h9 => h9) rfl dX3_addPadded_91 ?_
          refine mx_getN (ci := 1) (v := .int (bI f.1)) (C := RX1) (T := TX1) (N := 7) hx hb hts inX1 hown hK hP (by omega : 48 < n) hM.2.2.2.2.2.2.1 rfl 0 (by decide) (hN.1 _ nn_3) (fun _ h9 => h9) rfl dX3_addPadded_94 ?_
          refine lv_if_ne (tgt := 115) hx hb dX3_addPadded_97 (by decide) (fun hc9 => ?_) (fun hc9 => ?_)
          · skip
            refine lv_aload_n hx hb dX3_addPadded_115 rfl (lv_at hl 3 rfl) ?_
            refine mx_get (ci := 3) (v := .ref (ad 5)) (C := RX3) (T := TX3) (N := 9) hx hb hts inX3 hown hK hP (by omega : 0 < n) hM.1 rfl 2 (by decide) (hts _ wm_79) (fun _ h9 => h9) rfl dX3_addPadded_116 ?_
            refine lv_aload_n hx hb dX3_addPadded_119 rfl (lv_at hl 5 rfl) ?_
            refine mx_cv (va_runV (As := [.ref (ad kb)]) (rest := []) ⟨hx, hb, hml, hown, hts⟩ (c_Text_text l D ca n ad c (k := 5) (by omega) hM.2.2.2.1 (k2 := kb) (by omega) hB (by omega) (by (try simp only [List.length_append, List.length_replicate, List.length_cons, List.length_nil]); omega) _) (cwV 1 hts (gV wm_137 wm_138 wm_139 wm_2 wm_140) rfl rfl rfl (by decide +kernel) ⟨Nat.le_of_ble_eq_true rfl, Nat.le_of_ble_eq_true rfl⟩) (mx_pv (C := RX2) (T := TX2) (N := 2) (ci := 2) hK hP hD hN (by omega : 5 < n) hM.2.2.2.1.cell rfl) rfl rfl hl.1 rfl (lv_room (Nat.le_of_ble_eq_true rfl)) dX3_addPadded_120 ⟨Nat.zero_le _, Nat.zero_le _⟩) (Nat.le_refl _) hS (fun c1 H locs hw1 hP hS => ?_)
            obtain ⟨hs1, hT1⟩ := hw1
            have hM1 := hM.made hs1 hT1
            have hB1 : tTx ca ad c1 kb 40 bd := hB.keep (hs1 _ hdj.1 hdj.2.1) (hs1 _ hdj.2.2 (by omega))
            refine lv_aload_n hx hb dX3_addPadded_123 rfl (lv_at hl 3 rfl) ?_
            refine mx_get (ci := 3) (v := .ref (ad 48)) (C := RX3) (T := TX3) (N := 9) hx hb hts inX3 hown hK hP (by omega : 0 < n) hM1.1 rfl 6 (by decide) (hts _ wm_83) (fun _ h9 => h9) rfl dX3_addPadded_124 ?_
            refine mx_getN (ci := 1) (v := .int (bI f.1)) (C := RX1) (T := TX1) (N := 7) hx hb hts inX1 hown hK hP (by omega : 48 < n) hM1.2.2.2.2.2.2.1 rfl 0 (by decide) (hN.1 _ nn_3) (fun _ h9 => h9) rfl dX3_addPadded_127 ?_
            refine lv_if_eq (tgt := 144) hx hb dX3_addPadded_130 (by decide) (fun hc9 => ?_) (fun hc9 => ?_)
            · skip
              exact absurd (bI_eq hc9) (by rw [hLt]; decide)
            · skip
              refine lv_aload_n hx hb dX3_addPadded_133 rfl (lv_at hl 3 rfl) ?_
              refine mx_get (ci := 3) (v := .ref (ad 5)) (C := RX3) (T := TX3) (N := 9) hx hb hts inX3 hown hK hP (by omega : 0 < n) hM1.1 rfl 2 (by decide) (hts _ wm_79) (fun _ h9 => h9) rfl dX3_addPadded_134 ?_
              refine lv_bipush (v := 32) hx hb dX3_addPadded_137 (by decide) ?_
              refine lv_iload hx hb dX3_addPadded_139 (lv_at hl 0 rfl) ?_
              refine mx_cv (va_runV (As := [.int 32, .int (nI (max (bd.length + (sgL x).length) wd - (bd.length + (sgL x).length)))]) (rest := []) ⟨hx, hb, hml, hown, hts⟩ (c_Text_many l D ca n ad c1 (k := 5) (by omega) hM1.2.2.2.1 32 (nI (max (bd.length + (sgL x).length) wd - (bd.length + (sgL x).length))) (max (bd.length + (sgL x).length) wd - (bd.length + (sgL x).length)) rfl (by (try simp only [List.length_append, List.length_replicate, List.length_cons, List.length_nil]); omega) _) (cwV 2 hts (gV wm_218 wm_219 wm_220 wm_2 wm_221) rfl rfl rfl (by decide +kernel) ⟨Nat.le_of_ble_eq_true rfl, Nat.le_of_ble_eq_true rfl⟩) (mx_pv (C := RX2) (T := TX2) (N := 2) (ci := 2) hK hP hD hN (by omega : 5 < n) hM1.2.2.2.1.cell rfl) rfl rfl hl.1 rfl (lv_room (Nat.le_of_ble_eq_true rfl)) dX3_addPadded_141 ⟨Nat.zero_le _, Nat.zero_le _⟩) (Nat.le_refl _) hS (fun c2 H locs hw2 hP hS => ?_)
              obtain ⟨hs2, hT2⟩ := hw2
              have hM2 := hM1.made hs2 hT2
              have hB2 : tTx ca ad c2 kb 40 bd := hB1.keep (hs2 _ hdj.1 hdj.2.1) (hs2 _ hdj.2.2 (by omega))
              refine lv_iconst (v := 0) hx hb dX3_addPadded_144 (by decide) ?_
              have hmd : md ++ pad f.1 z wd (sgL x) bd = md ++ bd ++ List.replicate (max (bd.length + (sgL x).length) wd - (bd.length + (sgL x).length)) (by8 32) := by
                unfold pad
                rw [if_pos hLt, hsl0]
                simp only [List.append_assoc, List.nil_append, show by8 32 = 32 from rfl, show by8 48 = 48 from rfl]
              exact mx_iret hx hb hr hlocks hP hS (Or.inl ⟨by rw [pad_len]; exact hrm, rfl, by rw [hmd]; exact hM2, (hs1).tr hs2⟩) dX3_addPadded_145
          · skip
            exact absurd (bI_eq hc9) (by rw [hLt]; decide)
        · skip
          exact absurd hx0 hc9
      · skip
        have hLf : f.1 = false := bI_eq hc3
        refine lv_iload_n hx hb dX3_addPadded_62 rfl (lv_at hl 6 rfl) ?_
        refine lv_if_ne (tgt := 77) hx hb dX3_addPadded_63 (by decide) (fun hc4 => ?_) (fun hc4 => ?_)
        · skip
          have hZt : z = true := bI_ne hc4
          refine lv_iload_n hx hb dX3_addPadded_77 rfl (lv_at hl 4 rfl) ?_
          refine lv_if_eq (tgt := 90) hx hb dX3_addPadded_78 (by decide) (fun hc9 => ?_) (fun hc9 => ?_)
          · skip
            refine lv_aload_n hx hb dX3_addPadded_90 rfl (lv_at hl 3 rfl) ?_
            refine mx_get (ci := 3) (v := .ref (ad 48)) (C := RX3) (T := TX3) (N := 9) hx hb hts inX3 hown hK hP (by omega : 0 < n) hM.1 rfl 6 (by decide) (hts _ wm_83) (fun _ h9 => h9) rfl dX3_addPadded_91 ?_
            refine mx_getN (ci := 1) (v := .int (bI f.1)) (C := RX1) (T := TX1) (N := 7) hx hb hts inX1 hown hK hP (by omega : 48 < n) hM.2.2.2.2.2.2.1 rfl 0 (by decide) (hN.1 _ nn_3) (fun _ h9 => h9) rfl dX3_addPadded_94 ?_
            refine lv_if_ne (tgt := 115) hx hb dX3_addPadded_97 (by decide) (fun hc9 => ?_) (fun hc9 => ?_)
            · skip
              exact absurd (bI_ne hc9) (by rw [hLf]; decide)
            · skip
              refine lv_iload_n hx hb dX3_addPadded_100 rfl (lv_at hl 6 rfl) ?_
              refine lv_if_eq (tgt := 115) hx hb dX3_addPadded_101 (by decide) (fun hc9 => ?_) (fun hc9 => ?_)
              · skip
                exact absurd (bI_eq hc9) (by rw [hZt]; decide)
              · skip
                refine lv_aload_n hx hb dX3_addPadded_104 rfl (lv_at hl 3 rfl) ?_
                refine mx_get (ci := 3) (v := .ref (ad 5)) (C := RX3) (T := TX3) (N := 9) hx hb hts inX3 hown hK hP (by omega : 0 < n) hM.1 rfl 2 (by decide) (hts _ wm_79) (fun _ h9 => h9) rfl dX3_addPadded_105 ?_
                refine lv_bipush (v := 48) hx hb dX3_addPadded_108 (by decide) ?_
                refine lv_iload hx hb dX3_addPadded_110 (lv_at hl 0 rfl) ?_
                refine mx_cv (va_runV (As := [.int 48, .int (nI (max (bd.length + (sgL x).length) wd - (bd.length + (sgL x).length)))]) (rest := []) ⟨hx, hb, hml, hown, hts⟩ (c_Text_many l D ca n ad c (k := 5) (by omega) hM.2.2.2.1 48 (nI (max (bd.length + (sgL x).length) wd - (bd.length + (sgL x).length))) (max (bd.length + (sgL x).length) wd - (bd.length + (sgL x).length)) rfl (by (try simp only [List.length_append, List.length_replicate, List.length_cons, List.length_nil]); omega) _) (cwV 2 hts (gV wm_218 wm_219 wm_220 wm_2 wm_221) rfl rfl rfl (by decide +kernel) ⟨Nat.le_of_ble_eq_true rfl, Nat.le_of_ble_eq_true rfl⟩) (mx_pv (C := RX2) (T := TX2) (N := 2) (ci := 2) hK hP hD hN (by omega : 5 < n) hM.2.2.2.1.cell rfl) rfl rfl hl.1 rfl (lv_room (Nat.le_of_ble_eq_true rfl)) dX3_addPadded_112 ⟨Nat.zero_le _, Nat.zero_le _⟩) (Nat.le_refl _) hS (fun c1 H locs hw1 hP hS => ?_)
                obtain ⟨hs1, hT1⟩ := hw1
                have hM1 := hM.made hs1 hT1
                have hB1 : tTx ca ad c1 kb 40 bd := hB.keep (hs1 _ hdj.1 hdj.2.1) (hs1 _ hdj.2.2 (by omega))
                refine lv_aload_n hx hb dX3_addPadded_115 rfl (lv_at hl 3 rfl) ?_
                refine mx_get (ci := 3) (v := .ref (ad 5)) (C := RX3) (T := TX3) (N := 9) hx hb hts inX3 hown hK hP (by omega : 0 < n) hM1.1 rfl 2 (by decide) (hts _ wm_79) (fun _ h9 => h9) rfl dX3_addPadded_116 ?_
                refine lv_aload_n hx hb dX3_addPadded_119 rfl (lv_at hl 5 rfl) ?_
                refine mx_cv (va_runV (As := [.ref (ad kb)]) (rest := []) ⟨hx, hb, hml, hown, hts⟩ (c_Text_text l D ca n ad c1 (k := 5) (by omega) hM1.2.2.2.1 (k2 := kb) (by omega) hB1 (by omega) (by (try simp only [List.length_append, List.length_replicate, List.length_cons, List.length_nil]); omega) _) (cwV 1 hts (gV wm_137 wm_138 wm_139 wm_2 wm_140) rfl rfl rfl (by decide +kernel) ⟨Nat.le_of_ble_eq_true rfl, Nat.le_of_ble_eq_true rfl⟩) (mx_pv (C := RX2) (T := TX2) (N := 2) (ci := 2) hK hP hD hN (by omega : 5 < n) hM1.2.2.2.1.cell rfl) rfl rfl hl.1 rfl (lv_room (Nat.le_of_ble_eq_true rfl)) dX3_addPadded_120 ⟨Nat.zero_le _, Nat.zero_le _⟩) (Nat.le_refl _) hS (fun c2 H locs hw2 hP hS => ?_)
                obtain ⟨hs2, hT2⟩ := hw2
                have hM2 := hM1.made hs2 hT2
                have hB2 : tTx ca ad c2 kb 40 bd := hB1.keep (hs2 _ hdj.1 hdj.2.1) (hs2 _ hdj.2.2 (by omega))
                refine lv_aload_n hx hb dX3_addPadded_123 rfl (lv_at hl 3 rfl) ?_
                refine mx_get (ci := 3) (v := .ref (ad 48)) (C := RX3) (T := TX3) (N := 9) hx hb hts inX3 hown hK hP (by omega : 0 < n) hM2.1 rfl 6 (by decide) (hts _ wm_83) (fun _ h9 => h9) rfl dX3_addPadded_124 ?_
                refine mx_getN (ci := 1) (v := .int (bI f.1)) (C := RX1) (T := TX1) (N := 7) hx hb hts inX1 hown hK hP (by omega : 48 < n) hM2.2.2.2.2.2.2.1 rfl 0 (by decide) (hN.1 _ nn_3) (fun _ h9 => h9) rfl dX3_addPadded_127 ?_
                refine lv_if_eq (tgt := 144) hx hb dX3_addPadded_130 (by decide) (fun hc9 => ?_) (fun hc9 => ?_)
                · skip
                  refine lv_iconst (v := 0) hx hb dX3_addPadded_144 (by decide) ?_
                  have hmd : md ++ pad f.1 z wd (sgL x) bd = md ++ List.replicate (max (bd.length + (sgL x).length) wd - (bd.length + (sgL x).length)) (by8 48) ++ bd := by
                    unfold pad
                    rw [if_neg (by rw [hLf]; decide), if_pos hZt, hsl0]
                    simp only [List.append_assoc, List.nil_append, show by8 32 = 32 from rfl, show by8 48 = 48 from rfl]
                  exact mx_iret hx hb hr hlocks hP hS (Or.inl ⟨by rw [pad_len]; exact hrm, rfl, by rw [hmd]; exact hM2, (hs1).tr hs2⟩) dX3_addPadded_145
                · skip
                  exact absurd (bI_ne hc9) (by rw [hLf]; decide)
          · skip
            exact absurd hx0 hc9
        · skip
          have hZf : z = false := bI_eq hc4
          refine lv_aload_n hx hb dX3_addPadded_66 rfl (lv_at hl 3 rfl) ?_
          refine mx_get (ci := 3) (v := .ref (ad 5)) (C := RX3) (T := TX3) (N := 9) hx hb hts inX3 hown hK hP (by omega : 0 < n) hM.1 rfl 2 (by decide) (hts _ wm_79) (fun _ h9 => h9) rfl dX3_addPadded_67 ?_
          refine lv_bipush (v := 32) hx hb dX3_addPadded_70 (by decide) ?_
          refine lv_iload hx hb dX3_addPadded_72 (lv_at hl 0 rfl) ?_
          refine mx_cv (va_runV (As := [.int 32, .int (nI (max (bd.length + (sgL x).length) wd - (bd.length + (sgL x).length)))]) (rest := []) ⟨hx, hb, hml, hown, hts⟩ (c_Text_many l D ca n ad c (k := 5) (by omega) hM.2.2.2.1 32 (nI (max (bd.length + (sgL x).length) wd - (bd.length + (sgL x).length))) (max (bd.length + (sgL x).length) wd - (bd.length + (sgL x).length)) rfl (by (try simp only [List.length_append, List.length_replicate, List.length_cons, List.length_nil]); omega) _) (cwV 2 hts (gV wm_218 wm_219 wm_220 wm_2 wm_221) rfl rfl rfl (by decide +kernel) ⟨Nat.le_of_ble_eq_true rfl, Nat.le_of_ble_eq_true rfl⟩) (mx_pv (C := RX2) (T := TX2) (N := 2) (ci := 2) hK hP hD hN (by omega : 5 < n) hM.2.2.2.1.cell rfl) rfl rfl hl.1 rfl (lv_room (Nat.le_of_ble_eq_true rfl)) dX3_addPadded_74 ⟨Nat.zero_le _, Nat.zero_le _⟩) (Nat.le_refl _) hS (fun c1 H locs hw1 hP hS => ?_)
          obtain ⟨hs1, hT1⟩ := hw1
          have hM1 := hM.made hs1 hT1
          have hB1 : tTx ca ad c1 kb 40 bd := hB.keep (hs1 _ hdj.1 hdj.2.1) (hs1 _ hdj.2.2 (by omega))
          refine lv_iload_n hx hb dX3_addPadded_77 rfl (lv_at hl 4 rfl) ?_
          refine lv_if_eq (tgt := 90) hx hb dX3_addPadded_78 (by decide) (fun hc9 => ?_) (fun hc9 => ?_)
          · skip
            refine lv_aload_n hx hb dX3_addPadded_90 rfl (lv_at hl 3 rfl) ?_
            refine mx_get (ci := 3) (v := .ref (ad 48)) (C := RX3) (T := TX3) (N := 9) hx hb hts inX3 hown hK hP (by omega : 0 < n) hM1.1 rfl 6 (by decide) (hts _ wm_83) (fun _ h9 => h9) rfl dX3_addPadded_91 ?_
            refine mx_getN (ci := 1) (v := .int (bI f.1)) (C := RX1) (T := TX1) (N := 7) hx hb hts inX1 hown hK hP (by omega : 48 < n) hM1.2.2.2.2.2.2.1 rfl 0 (by decide) (hN.1 _ nn_3) (fun _ h9 => h9) rfl dX3_addPadded_94 ?_
            refine lv_if_ne (tgt := 115) hx hb dX3_addPadded_97 (by decide) (fun hc9 => ?_) (fun hc9 => ?_)
            · skip
              exact absurd (bI_ne hc9) (by rw [hLf]; decide)
            · skip
              refine lv_iload_n hx hb dX3_addPadded_100 rfl (lv_at hl 6 rfl) ?_
              refine lv_if_eq (tgt := 115) hx hb dX3_addPadded_101 (by decide) (fun hc9 => ?_) (fun hc9 => ?_)
              · skip
                refine lv_aload_n hx hb dX3_addPadded_115 rfl (lv_at hl 3 rfl) ?_
                refine mx_get (ci := 3) (v := .ref (ad 5)) (C := RX3) (T := TX3) (N := 9) hx hb hts inX3 hown hK hP (by omega : 0 < n) hM1.1 rfl 2 (by decide) (hts _ wm_79) (fun _ h9 => h9) rfl dX3_addPadded_116 ?_
                refine lv_aload_n hx hb dX3_addPadded_119 rfl (lv_at hl 5 rfl) ?_
                refine mx_cv (va_runV (As := [.ref (ad kb)]) (rest := []) ⟨hx, hb, hml, hown, hts⟩ (c_Text_text l D ca n ad c1 (k := 5) (by omega) hM1.2.2.2.1 (k2 := kb) (by omega) hB1 (by omega) (by (try simp only [List.length_append, List.length_replicate, List.length_cons, List.length_nil]); omega) _) (cwV 1 hts (gV wm_137 wm_138 wm_139 wm_2 wm_140) rfl rfl rfl (by decide +kernel) ⟨Nat.le_of_ble_eq_true rfl, Nat.le_of_ble_eq_true rfl⟩) (mx_pv (C := RX2) (T := TX2) (N := 2) (ci := 2) hK hP hD hN (by omega : 5 < n) hM1.2.2.2.1.cell rfl) rfl rfl hl.1 rfl (lv_room (Nat.le_of_ble_eq_true rfl)) dX3_addPadded_120 ⟨Nat.zero_le _, Nat.zero_le _⟩) (Nat.le_refl _) hS (fun c2 H locs hw2 hP hS => ?_)
                obtain ⟨hs2, hT2⟩ := hw2
                have hM2 := hM1.made hs2 hT2
                have hB2 : tTx ca ad c2 kb 40 bd := hB1.keep (hs2 _ hdj.1 hdj.2.1) (hs2 _ hdj.2.2 (by omega))
                refine lv_aload_n hx hb dX3_addPadded_123 rfl (lv_at hl 3 rfl) ?_
                refine mx_get (ci := 3) (v := .ref (ad 48)) (C := RX3) (T := TX3) (N := 9) hx hb hts inX3 hown hK hP (by omega : 0 < n) hM2.1 rfl 6 (by decide) (hts _ wm_83) (fun _ h9 => h9) rfl dX3_addPadded_124 ?_
                refine mx_getN (ci := 1) (v := .int (bI f.1)) (C := RX1) (T := TX1) (N := 7) hx hb hts inX1 hown hK hP (by omega : 48 < n) hM2.2.2.2.2.2.2.1 rfl 0 (by decide) (hN.1 _ nn_3) (fun _ h9 => h9) rfl dX3_addPadded_127 ?_
                refine lv_if_eq (tgt := 144) hx hb dX3_addPadded_130 (by decide) (fun hc9 => ?_) (fun hc9 => ?_)
                · skip
                  refine lv_iconst (v := 0) hx hb dX3_addPadded_144 (by decide) ?_
                  have hmd : md ++ pad f.1 z wd (sgL x) bd = md ++ List.replicate (max (bd.length + (sgL x).length) wd - (bd.length + (sgL x).length)) (by8 32) ++ bd := by
                    unfold pad
                    rw [if_neg (by rw [hLf]; decide), if_neg (by rw [hZf]; decide), hsl0]
                    simp only [List.append_assoc, List.nil_append, show by8 32 = 32 from rfl, show by8 48 = 48 from rfl]
                  exact mx_iret hx hb hr hlocks hP hS (Or.inl ⟨by rw [pad_len]; exact hrm, rfl, by rw [hmd]; exact hM2, (hs1).tr hs2⟩) dX3_addPadded_145
                · skip
                  exact absurd (bI_ne hc9) (by rw [hLf]; decide)
              · skip
                exact absurd (bI_ne hc9) (by rw [hZf]; decide)
          · skip
            exact absurd hx0 hc9
    · skip
      refine lv_bipush (v := (-5)) hx hb dX3_addPadded_42 (by decide) ?_
      exact mx_iret hx hb hr hlocks hP hS (Or.inr ⟨by rw [pad_len]; rcases hw with h | h; exact absurd (h.2.symm.trans hc2) (by decide); have := (nI_ltI (by omega) (by omega)).mp h.1; omega, rfl, rfl⟩) dX3_addPadded_44
set_option maxHeartbeats 4000000 in
set_option maxRecDepth 100000 in
/-- fillWithInteger -/
theorem c_fillInt (l : Launch) (D : va_G) (ca : Nat → ClassId) (n : Nat) (ad : Nat → Nat) (c : Nat → va_E) {tp pt md dg : List Nat} {ar : Nat → List Nat} {ac tk : Nat} {f : fl4} {wd : Nat} {kd bh : Int32} {v : Int64} (hn : 52 ≤ n) (hM : tMF ca ad c tp pt md ar ac tk f (nI wd) kd bh v dg) (hwd : wd ≤ 100000) (x : Int64) : mInt l yX3_fillWithInteger wsX3_fillWithInteger ({ frames := 3, cells := 0, slots := 0, locals := 70 }) [.ref (ad 0), .long x] D (tTY ca) n ad c (fun r c' => ((md.length + (fInt f wd kd x).length ≤ 1024 ∧ r = 0 ∧ ∃ dg', tMF ca ad c' tp pt (md ++ fInt f wd kd x) ar ac tk f (nI wd) kd bh v dg') ∨ (¬ md.length + (fInt f wd kd x).length ≤ 1024 ∧ r = -5 ∧ ∃ dg', tMF ca ad c' tp pt md ar ac tk f (nI wd) kd bh v dg')) ∧ ∀ j, 52 ≤ j → c' j = c j) := by
  intro sz
  refine Met.ofW (cc := cX3_fillWithInteger) (maxL := 3) (ret := (some .int)) (by decide) rfl ?_
  intro pg9 ev9 s m args below meth cd s₁ B hml hv
  obtain ⟨rfl, hsz, hP, hK, hD0, hN⟩ := hv
  have hx := B.exec
  have hb := B.bytes
  have hr := B.returns
  have hts := fun (w : Cond) (h : w ∈ WSa) => atoms_spec (ws := wsX3_fillWithInteger) B.pre w (List.mem_cons_of_mem _ h)
  have hown : s.vm.findClass RX3 = some m.cls := findClass_of_methodNamed B.named
  have hlocks := B.notSynchronized
  subst hsz
  have hD : ∀ c, va_D (fun _ => True) (mw n ad c) := fun c' => mw_D hD0 c'
  have hS : va_S (mA n ad s.heap.size) s.heap s.heap [] := va_S.rf
  have hl := lv_entry ([.ref (ad 0), .long x]) (n := 3) (Nat.le_of_ble_eq_true rfl)
  rw [lg_entry_eq]
  generalize (lg_sl ([.ref (ad 0), .long x]) ++ List.replicate (3 - (lg_sl ([.ref (ad 0), .long x])).length) Slot.unset).toArray = ls at hl ⊢
  have hl : lv_has ls 3 [(0, .ref (ad 0)), (1, .long x)] := hl
  refine lv_aload_n hx hb dX3_fillWithInteger_0 rfl (lv_at hl 0 rfl) ?_
  refine mx_get (ci := 3) (v := .ref (ad 50)) (C := RX3) (T := TX3) (N := 9) hx hb hts inX3 hown hK hP (by omega : 0 < n) hM.1 rfl 8 (by decide) (hts _ wm_85) (fun _ h9 => h9) rfl dX3_fillWithInteger_1 ?_
  refine mx_cv (va_runV (As := []) (rest := []) ⟨hx, hb, hml, hown, hts⟩ (c_Text_empty l D ca n ad c (k := 50) (by omega) hM.2.2.2.2.2.2.2.2.1 _) (cwV 0 hts (gV wm_133 wm_134 wm_135 wm_2 wm_136) rfl rfl rfl (by decide +kernel) ⟨Nat.le_of_ble_eq_true rfl, Nat.le_of_ble_eq_true rfl⟩) (mx_pv (C := RX2) (T := TX2) (N := 2) (ci := 2) hK hP hD hN (by omega : 50 < n) hM.2.2.2.2.2.2.2.2.1.cell rfl) rfl rfl hl.1 rfl (lv_room (Nat.le_of_ble_eq_true rfl)) dX3_fillWithInteger_4 ⟨Nat.zero_le _, Nat.zero_le _⟩) (Nat.le_refl _) hS (fun c1 H locs hw1 hP hS => ?_)
  obtain ⟨hs1, hT1⟩ := hw1
  have hM1 := hM.dig hs1 hT1
  refine lv_aload_n hx hb dX3_fillWithInteger_7 rfl (lv_at hl 0 rfl) ?_
  refine mx_get (ci := 3) (v := .ref (ad 48)) (C := RX3) (T := TX3) (N := 9) hx hb hts inX3 hown hK hP (by omega : 0 < n) hM1.1 rfl 6 (by decide) (hts _ wm_83) (fun _ h9 => h9) rfl dX3_fillWithInteger_8 ?_
  refine mx_getN (ci := 1) (v := .int kd) (C := RX1) (T := TX1) (N := 7) hx hb hts inX1 hown hK hP (by omega : 48 < n) hM1.2.2.2.2.2.2.1 rfl 5 (by decide) (hN.1 _ nn_6) (fun _ h9 => h9) rfl dX3_fillWithInteger_11 ?_
  by_cases h88 : kd = 88
  · skip
    refine lv_lookup (off := 104) (tgt := 118) hx hb dX3_fillWithInteger_14 (by decide) (by first | (rw [h88]; rfl) | rw [h88]) (by decide) ?_
    refine lv_aload_n hx hb dX3_fillWithInteger_118 rfl (lv_at hl 0 rfl) ?_
    refine mx_get (ci := 3) (v := .ref (ad 50)) (C := RX3) (T := TX3) (N := 9) hx hb hts inX3 hown hK hP (by omega : 0 < n) hM1.1 rfl 8 (by decide) (hts _ wm_85) (fun _ h9 => h9) rfl dX3_fillWithInteger_119 ?_
    refine lv_lload_n hx hb dX3_fillWithInteger_122 rfl (lv_at hl 1 rfl) ?_
    refine lv_bipush (v := 16) hx hb dX3_fillWithInteger_123 (by decide) ?_
    refine lv_iconst (v := 4) hx hb dX3_fillWithInteger_125 (by decide) ?_
    refine lv_bipush (v := 65) hx hb dX3_fillWithInteger_126 (by decide) ?_
    refine mx_cv (va_runV (As := [.long x, .int 16, .int 4, .int 65]) (rest := []) ⟨hx, hb, hml, hown, hts⟩ (c_Text_bits l D ca n ad c1 (k := 50) (by omega) hT1 x 16 4 65 16 4 65 rfl rfl rfl (by decide) (by decide) (by decide) (by decide) (by simp) _) (cwV 4 hts (gV wm_254 wm_255 wm_256 wm_2 wm_257) rfl rfl rfl (by decide +kernel) ⟨Nat.le_of_ble_eq_true rfl, Nat.le_of_ble_eq_true rfl⟩) (mx_pv (C := RX2) (T := TX2) (N := 2) (ci := 2) hK hP hD hN (by omega : 50 < n) hM1.2.2.2.2.2.2.2.2.1.cell rfl) rfl rfl hl.1 rfl (lv_room (Nat.le_of_ble_eq_true rfl)) dX3_fillWithInteger_128 ⟨Nat.zero_le _, Nat.zero_le _⟩) (Nat.le_refl _) hS (fun c2 H locs hw2 hP hS => ?_)
    obtain ⟨hs2, hT2⟩ := hw2
    rw [List.nil_append] at hT2
    have hM2 := hM1.dig hs2 hT2
    refine lv_aload_n hx hb dX3_fillWithInteger_131 rfl (lv_at hl 0 rfl) ?_
    refine lv_iconst (v := 0) hx hb dX3_fillWithInteger_132 (by decide) ?_
    refine lv_aload_n hx hb dX3_fillWithInteger_133 rfl (lv_at hl 0 rfl) ?_
    refine mx_get (ci := 3) (v := .ref (ad 50)) (C := RX3) (T := TX3) (N := 9) hx hb hts inX3 hown hK hP (by omega : 0 < n) hM2.1 rfl 8 (by decide) (hts _ wm_85) (fun _ h9 => h9) rfl dX3_fillWithInteger_134 ?_
    refine lv_aload_n hx hb dX3_fillWithInteger_137 rfl (lv_at hl 0 rfl) ?_
    refine mx_get (ci := 3) (v := .ref (ad 48)) (C := RX3) (T := TX3) (N := 9) hx hb hts inX3 hown hK hP (by omega : 0 < n) hM2.1 rfl 6 (by decide) (hts _ wm_83) (fun _ h9 => h9) rfl dX3_fillWithInteger_138 ?_
    refine mx_getN (ci := 1) (v := .int (bI f.2.1)) (C := RX1) (T := TX1) (N := 7) hx hb hts inX1 hown hK hP (by omega : 48 < n) hM2.2.2.2.2.2.2.1 rfl 1 (by decide) (hN.1 _ nn_4) (fun _ h9 => h9) rfl dX3_fillWithInteger_141 ?_
    refine mx_ci (va_runV (As := [.int 0, .ref (ad 50), .int (bI f.2.1)]) (rest := []) ⟨hx, hb, hml, hown, hts⟩ (c_padded l D ca n ad c2 hn hM2 hwd 0 f.2.1 (kb := 50) (by omega) hM2.2.2.2.2.2.2.2.2.1 (by omega) _) (cwV 3 hts (gV wm_211 wm_213 ws_6 wm_1 wm_214) rfl rfl rfl (by decide +kernel) ⟨Nat.le_of_ble_eq_true rfl, Nat.le_of_ble_eq_true rfl⟩) (mx_pv (C := RX3) (T := TX3) (N := 9) (ci := 3) hK hP hD hN (by omega : 0 < n) hM2.1 rfl) rfl rfl hl.1 rfl (lv_room (Nat.le_of_ble_eq_true rfl)) dX3_fillWithInteger_144 ⟨Nat.zero_le _, Nat.zero_le _⟩) (Nat.le_refl _) hS (fun r c3 H locs hw3 hP hS => ?_)
    have hfi : fInt f wd kd x = pad f.1 f.2.1 wd (sgL 0) (tBits x 16 4 65) := by unfold fInt; rw [if_pos h88]
    have hq : ((md.length + (fInt f wd kd x).length ≤ 1024 ∧ r = 0 ∧ ∃ dg', tMF ca ad c3 tp pt (md ++ fInt f wd kd x) ar ac tk f (nI wd) kd bh v dg') ∨ (¬ md.length + (fInt f wd kd x).length ≤ 1024 ∧ r = -5 ∧ ∃ dg', tMF ca ad c3 tp pt md ar ac tk f (nI wd) kd bh v dg')) ∧ ∀ j, 52 ≤ j → c3 j = c j := by
      rw [hfi]
      rcases hw3 with ⟨h1, h2, h3, h4⟩ | ⟨h1, h2, h3⟩
      · exact ⟨Or.inl ⟨h1, h2, _, h3⟩, fun j h => (h4 j (by omega) (by omega)).trans ((hs2 j (by omega) (by omega)).trans (hs1 j (by omega) (by omega)))⟩
      · rw [h3]; exact ⟨Or.inr ⟨h1, h2, _, hM2⟩, fun j h => (hs2 j (by omega) (by omega)).trans (hs1 j (by omega) (by omega))⟩
    exact mx_iret hx hb hr hlocks hP hS (hq) dX3_fillWithInteger_147
  by_cases h100 : kd = 100
  · skip
    refine lv_lookup (off := 42) (tgt := 56) hx hb dX3_fillWithInteger_14 (by decide) (by first | (rw [h100]; rfl) | rw [h100]) (by decide) ?_
    refine lv_aload_n hx hb dX3_fillWithInteger_56 rfl (lv_at hl 0 rfl) ?_
    refine mx_get (ci := 3) (v := .ref (ad 50)) (C := RX3) (T := TX3) (N := 9) hx hb hts inX3 hown hK hP (by omega : 0 < n) hM1.1 rfl 8 (by decide) (hts _ wm_85) (fun _ h9 => h9) rfl dX3_fillWithInteger_57 ?_
    refine lv_lload_n hx hb dX3_fillWithInteger_60 rfl (lv_at hl 1 rfl) ?_
    refine mx_cv (va_runV (As := [.long x]) (rest := []) ⟨hx, hb, hml, hown, hts⟩ (c_Text_dec l D ca n ad c1 (k := 50) (by omega) hT1 x (by simp) _) (cwV 1 hts (gV wm_162 wm_163 wm_164 wm_2 wm_165) rfl rfl rfl (by decide +kernel) ⟨Nat.le_of_ble_eq_true rfl, Nat.le_of_ble_eq_true rfl⟩) (mx_pv (C := RX2) (T := TX2) (N := 2) (ci := 2) hK hP hD hN (by omega : 50 < n) hM1.2.2.2.2.2.2.2.2.1.cell rfl) rfl rfl hl.1 rfl (lv_room (Nat.le_of_ble_eq_true rfl)) dX3_fillWithInteger_61 ⟨Nat.zero_le _, Nat.zero_le _⟩) (Nat.le_refl _) hS (fun c2 H locs hw2 hP hS => ?_)
    obtain ⟨hs2, hT2⟩ := hw2
    rw [List.nil_append] at hT2
    have hM2 := hM1.dig hs2 hT2
    refine lv_aload_n hx hb dX3_fillWithInteger_64 rfl (lv_at hl 0 rfl) ?_
    refine lv_aload_n hx hb dX3_fillWithInteger_65 rfl (lv_at hl 0 rfl) ?_
    refine mx_get (ci := 3) (v := .ref (ad 48)) (C := RX3) (T := TX3) (N := 9) hx hb hts inX3 hown hK hP (by omega : 0 < n) hM2.1 rfl 6 (by decide) (hts _ wm_83) (fun _ h9 => h9) rfl dX3_fillWithInteger_66 ?_
    refine lv_lload_n hx hb dX3_fillWithInteger_69 rfl (lv_at hl 1 rfl) ?_
    refine mx_ci (va_runV (As := [.long x]) (rest := [.ref (ad 0)]) ⟨hx, hb, hml, hown, hts⟩ (c_Place_signOf l D ca n ad c2 (k := 48) (by omega) hM2.2.2.2.2.2.2.1 x _) (cwV 1 hts (gV wm_250 wm_251 wm_252 wm_3 wm_253) rfl rfl rfl (by decide +kernel) ⟨Nat.le_of_ble_eq_true rfl, Nat.le_of_ble_eq_true rfl⟩) (mx_pv (C := RX1) (T := TX1) (N := 7) (ci := 1) hK hP hD hN (by omega : 48 < n) hM2.2.2.2.2.2.2.1 rfl) rfl rfl hl.1 rfl (lv_room (Nat.le_of_ble_eq_true rfl)) dX3_fillWithInteger_70 ⟨Nat.zero_le _, Nat.zero_le _⟩) (Nat.le_refl _) hS (fun r1 c3 H locs hw3 hP hS => ?_)
    obtain ⟨hcE, hr1⟩ := hw3
    rw [hcE] at hP
    refine mx_i (sgn f x) (hr1) ?_
    refine lv_aload_n hx hb dX3_fillWithInteger_73 rfl (lv_at hl 0 rfl) ?_
    refine mx_get (ci := 3) (v := .ref (ad 50)) (C := RX3) (T := TX3) (N := 9) hx hb hts inX3 hown hK hP (by omega : 0 < n) hM2.1 rfl 8 (by decide) (hts _ wm_85) (fun _ h9 => h9) rfl dX3_fillWithInteger_74 ?_
    refine lv_aload_n hx hb dX3_fillWithInteger_77 rfl (lv_at hl 0 rfl) ?_
    refine mx_get (ci := 3) (v := .ref (ad 48)) (C := RX3) (T := TX3) (N := 9) hx hb hts inX3 hown hK hP (by omega : 0 < n) hM2.1 rfl 6 (by decide) (hts _ wm_83) (fun _ h9 => h9) rfl dX3_fillWithInteger_78 ?_
    refine mx_getN (ci := 1) (v := .int (bI f.2.1)) (C := RX1) (T := TX1) (N := 7) hx hb hts inX1 hown hK hP (by omega : 48 < n) hM2.2.2.2.2.2.2.1 rfl 1 (by decide) (hN.1 _ nn_4) (fun _ h9 => h9) rfl dX3_fillWithInteger_81 ?_
    refine mx_ci (va_runV (As := [.int (sgn f x), .ref (ad 50), .int (bI f.2.1)]) (rest := []) ⟨hx, hb, hml, hown, hts⟩ (c_padded l D ca n ad c2 hn hM2 hwd (sgn f x) f.2.1 (kb := 50) (by omega) hM2.2.2.2.2.2.2.2.2.1 (by omega) _) (cwV 3 hts (gV wm_211 wm_213 ws_6 wm_1 wm_214) rfl rfl rfl (by decide +kernel) ⟨Nat.le_of_ble_eq_true rfl, Nat.le_of_ble_eq_true rfl⟩) (mx_pv (C := RX3) (T := TX3) (N := 9) (ci := 3) hK hP hD hN (by omega : 0 < n) hM2.1 rfl) rfl rfl hl.1 rfl (lv_room (Nat.le_of_ble_eq_true rfl)) dX3_fillWithInteger_84 ⟨Nat.zero_le _, Nat.zero_le _⟩) (Nat.le_refl _) hS (fun r c3 H locs hw3 hP hS => ?_)
    have hfi : fInt f wd kd x = pad f.1 f.2.1 wd (sgL (sgn f x)) (tDec x) := by unfold fInt; rw [if_neg h88, if_pos h100]
    have hq : ((md.length + (fInt f wd kd x).length ≤ 1024 ∧ r = 0 ∧ ∃ dg', tMF ca ad c3 tp pt (md ++ fInt f wd kd x) ar ac tk f (nI wd) kd bh v dg') ∨ (¬ md.length + (fInt f wd kd x).length ≤ 1024 ∧ r = -5 ∧ ∃ dg', tMF ca ad c3 tp pt md ar ac tk f (nI wd) kd bh v dg')) ∧ ∀ j, 52 ≤ j → c3 j = c j := by
      rw [hfi]
      rcases hw3 with ⟨h1, h2, h3, h4⟩ | ⟨h1, h2, h3⟩
      · exact ⟨Or.inl ⟨h1, h2, _, h3⟩, fun j h => (h4 j (by omega) (by omega)).trans ((hs2 j (by omega) (by omega)).trans (hs1 j (by omega) (by omega)))⟩
      · rw [h3]; exact ⟨Or.inr ⟨h1, h2, _, hM2⟩, fun j h => (hs2 j (by omega) (by omega)).trans (hs1 j (by omega) (by omega))⟩
    exact mx_iret hx hb hr hlocks hP hS (hq) dX3_fillWithInteger_87
  by_cases h111 : kd = 111
  · skip
    refine lv_lookup (off := 134) (tgt := 148) hx hb dX3_fillWithInteger_14 (by decide) (by first | (rw [h111]; rfl) | rw [h111]) (by decide) ?_
    refine lv_aload_n hx hb dX3_fillWithInteger_148 rfl (lv_at hl 0 rfl) ?_
    refine mx_get (ci := 3) (v := .ref (ad 50)) (C := RX3) (T := TX3) (N := 9) hx hb hts inX3 hown hK hP (by omega : 0 < n) hM1.1 rfl 8 (by decide) (hts _ wm_85) (fun _ h9 => h9) rfl dX3_fillWithInteger_149 ?_
    refine lv_lload_n hx hb dX3_fillWithInteger_152 rfl (lv_at hl 1 rfl) ?_
    refine lv_bipush (v := 22) hx hb dX3_fillWithInteger_153 (by decide) ?_
    refine lv_iconst (v := 3) hx hb dX3_fillWithInteger_155 (by decide) ?_
    refine lv_bipush (v := 97) hx hb dX3_fillWithInteger_156 (by decide) ?_
    refine mx_cv (va_runV (As := [.long x, .int 22, .int 3, .int 97]) (rest := []) ⟨hx, hb, hml, hown, hts⟩ (c_Text_bits l D ca n ad c1 (k := 50) (by omega) hT1 x 22 3 97 22 3 97 rfl rfl rfl (by decide) (by decide) (by decide) (by decide) (by simp) _) (cwV 4 hts (gV wm_254 wm_255 wm_256 wm_2 wm_257) rfl rfl rfl (by decide +kernel) ⟨Nat.le_of_ble_eq_true rfl, Nat.le_of_ble_eq_true rfl⟩) (mx_pv (C := RX2) (T := TX2) (N := 2) (ci := 2) hK hP hD hN (by omega : 50 < n) hM1.2.2.2.2.2.2.2.2.1.cell rfl) rfl rfl hl.1 rfl (lv_room (Nat.le_of_ble_eq_true rfl)) dX3_fillWithInteger_158 ⟨Nat.zero_le _, Nat.zero_le _⟩) (Nat.le_refl _) hS (fun c2 H locs hw2 hP hS => ?_)
    obtain ⟨hs2, hT2⟩ := hw2
    rw [List.nil_append] at hT2
    have hM2 := hM1.dig hs2 hT2
    refine lv_aload_n hx hb dX3_fillWithInteger_161 rfl (lv_at hl 0 rfl) ?_
    refine lv_iconst (v := 0) hx hb dX3_fillWithInteger_162 (by decide) ?_
    refine lv_aload_n hx hb dX3_fillWithInteger_163 rfl (lv_at hl 0 rfl) ?_
    refine mx_get (ci := 3) (v := .ref (ad 50)) (C := RX3) (T := TX3) (N := 9) hx hb hts inX3 hown hK hP (by omega : 0 < n) hM2.1 rfl 8 (by decide) (hts _ wm_85) (fun _ h9 => h9) rfl dX3_fillWithInteger_164 ?_
    refine lv_aload_n hx hb dX3_fillWithInteger_167 rfl (lv_at hl 0 rfl) ?_
    refine mx_get (ci := 3) (v := .ref (ad 48)) (C := RX3) (T := TX3) (N := 9) hx hb hts inX3 hown hK hP (by omega : 0 < n) hM2.1 rfl 6 (by decide) (hts _ wm_83) (fun _ h9 => h9) rfl dX3_fillWithInteger_168 ?_
    refine mx_getN (ci := 1) (v := .int (bI f.2.1)) (C := RX1) (T := TX1) (N := 7) hx hb hts inX1 hown hK hP (by omega : 48 < n) hM2.2.2.2.2.2.2.1 rfl 1 (by decide) (hN.1 _ nn_4) (fun _ h9 => h9) rfl dX3_fillWithInteger_171 ?_
    refine mx_ci (va_runV (As := [.int 0, .ref (ad 50), .int (bI f.2.1)]) (rest := []) ⟨hx, hb, hml, hown, hts⟩ (c_padded l D ca n ad c2 hn hM2 hwd 0 f.2.1 (kb := 50) (by omega) hM2.2.2.2.2.2.2.2.2.1 (by omega) _) (cwV 3 hts (gV wm_211 wm_213 ws_6 wm_1 wm_214) rfl rfl rfl (by decide +kernel) ⟨Nat.le_of_ble_eq_true rfl, Nat.le_of_ble_eq_true rfl⟩) (mx_pv (C := RX3) (T := TX3) (N := 9) (ci := 3) hK hP hD hN (by omega : 0 < n) hM2.1 rfl) rfl rfl hl.1 rfl (lv_room (Nat.le_of_ble_eq_true rfl)) dX3_fillWithInteger_174 ⟨Nat.zero_le _, Nat.zero_le _⟩) (Nat.le_refl _) hS (fun r c3 H locs hw3 hP hS => ?_)
    have hfi : fInt f wd kd x = pad f.1 f.2.1 wd (sgL 0) (tBits x 22 3 97) := by unfold fInt; rw [if_neg h88, if_neg h100, if_pos h111]
    have hq : ((md.length + (fInt f wd kd x).length ≤ 1024 ∧ r = 0 ∧ ∃ dg', tMF ca ad c3 tp pt (md ++ fInt f wd kd x) ar ac tk f (nI wd) kd bh v dg') ∨ (¬ md.length + (fInt f wd kd x).length ≤ 1024 ∧ r = -5 ∧ ∃ dg', tMF ca ad c3 tp pt md ar ac tk f (nI wd) kd bh v dg')) ∧ ∀ j, 52 ≤ j → c3 j = c j := by
      rw [hfi]
      rcases hw3 with ⟨h1, h2, h3, h4⟩ | ⟨h1, h2, h3⟩
      · exact ⟨Or.inl ⟨h1, h2, _, h3⟩, fun j h => (h4 j (by omega) (by omega)).trans ((hs2 j (by omega) (by omega)).trans (hs1 j (by omega) (by omega)))⟩
      · rw [h3]; exact ⟨Or.inr ⟨h1, h2, _, hM2⟩, fun j h => (hs2 j (by omega) (by omega)).trans (hs1 j (by omega) (by omega))⟩
    exact mx_iret hx hb hr hlocks hP hS (hq) dX3_fillWithInteger_177
  by_cases h120 : kd = 120
  · skip
    refine lv_lookup (off := 74) (tgt := 88) hx hb dX3_fillWithInteger_14 (by decide) (by first | (rw [h120]; rfl) | rw [h120]) (by decide) ?_
    refine lv_aload_n hx hb dX3_fillWithInteger_88 rfl (lv_at hl 0 rfl) ?_
    refine mx_get (ci := 3) (v := .ref (ad 50)) (C := RX3) (T := TX3) (N := 9) hx hb hts inX3 hown hK hP (by omega : 0 < n) hM1.1 rfl 8 (by decide) (hts _ wm_85) (fun _ h9 => h9) rfl dX3_fillWithInteger_89 ?_
    refine lv_lload_n hx hb dX3_fillWithInteger_92 rfl (lv_at hl 1 rfl) ?_
    refine lv_bipush (v := 16) hx hb dX3_fillWithInteger_93 (by decide) ?_
    refine lv_iconst (v := 4) hx hb dX3_fillWithInteger_95 (by decide) ?_
    refine lv_bipush (v := 97) hx hb dX3_fillWithInteger_96 (by decide) ?_
    refine mx_cv (va_runV (As := [.long x, .int 16, .int 4, .int 97]) (rest := []) ⟨hx, hb, hml, hown, hts⟩ (c_Text_bits l D ca n ad c1 (k := 50) (by omega) hT1 x 16 4 97 16 4 97 rfl rfl rfl (by decide) (by decide) (by decide) (by decide) (by simp) _) (cwV 4 hts (gV wm_254 wm_255 wm_256 wm_2 wm_257) rfl rfl rfl (by decide +kernel) ⟨Nat.le_of_ble_eq_true rfl, Nat.le_of_ble_eq_true rfl⟩) (mx_pv (C := RX2) (T := TX2) (N := 2) (ci := 2) hK hP hD hN (by omega : 50 < n) hM1.2.2.2.2.2.2.2.2.1.cell rfl) rfl rfl hl.1 rfl (lv_room (Nat.le_of_ble_eq_true rfl)) dX3_fillWithInteger_98 ⟨Nat.zero_le _, Nat.zero_le _⟩) (Nat.le_refl _) hS (fun c2 H locs hw2 hP hS => ?_)
    obtain ⟨hs2, hT2⟩ := hw2
    rw [List.nil_append] at hT2
    have hM2 := hM1.dig hs2 hT2
    refine lv_aload_n hx hb dX3_fillWithInteger_101 rfl (lv_at hl 0 rfl) ?_
    refine lv_iconst (v := 0) hx hb dX3_fillWithInteger_102 (by decide) ?_
    refine lv_aload_n hx hb dX3_fillWithInteger_103 rfl (lv_at hl 0 rfl) ?_
    refine mx_get (ci := 3) (v := .ref (ad 50)) (C := RX3) (T := TX3) (N := 9) hx hb hts inX3 hown hK hP (by omega : 0 < n) hM2.1 rfl 8 (by decide) (hts _ wm_85) (fun _ h9 => h9) rfl dX3_fillWithInteger_104 ?_
    refine lv_aload_n hx hb dX3_fillWithInteger_107 rfl (lv_at hl 0 rfl) ?_
    refine mx_get (ci := 3) (v := .ref (ad 48)) (C := RX3) (T := TX3) (N := 9) hx hb hts inX3 hown hK hP (by omega : 0 < n) hM2.1 rfl 6 (by decide) (hts _ wm_83) (fun _ h9 => h9) rfl dX3_fillWithInteger_108 ?_
    refine mx_getN (ci := 1) (v := .int (bI f.2.1)) (C := RX1) (T := TX1) (N := 7) hx hb hts inX1 hown hK hP (by omega : 48 < n) hM2.2.2.2.2.2.2.1 rfl 1 (by decide) (hN.1 _ nn_4) (fun _ h9 => h9) rfl dX3_fillWithInteger_111 ?_
    refine mx_ci (va_runV (As := [.int 0, .ref (ad 50), .int (bI f.2.1)]) (rest := []) ⟨hx, hb, hml, hown, hts⟩ (c_padded l D ca n ad c2 hn hM2 hwd 0 f.2.1 (kb := 50) (by omega) hM2.2.2.2.2.2.2.2.2.1 (by omega) _) (cwV 3 hts (gV wm_211 wm_213 ws_6 wm_1 wm_214) rfl rfl rfl (by decide +kernel) ⟨Nat.le_of_ble_eq_true rfl, Nat.le_of_ble_eq_true rfl⟩) (mx_pv (C := RX3) (T := TX3) (N := 9) (ci := 3) hK hP hD hN (by omega : 0 < n) hM2.1 rfl) rfl rfl hl.1 rfl (lv_room (Nat.le_of_ble_eq_true rfl)) dX3_fillWithInteger_114 ⟨Nat.zero_le _, Nat.zero_le _⟩) (Nat.le_refl _) hS (fun r c3 H locs hw3 hP hS => ?_)
    have hfi : fInt f wd kd x = pad f.1 f.2.1 wd (sgL 0) (tBits x 16 4 97) := by unfold fInt; rw [if_neg h88, if_neg h100, if_neg h111, if_pos h120]
    have hq : ((md.length + (fInt f wd kd x).length ≤ 1024 ∧ r = 0 ∧ ∃ dg', tMF ca ad c3 tp pt (md ++ fInt f wd kd x) ar ac tk f (nI wd) kd bh v dg') ∨ (¬ md.length + (fInt f wd kd x).length ≤ 1024 ∧ r = -5 ∧ ∃ dg', tMF ca ad c3 tp pt md ar ac tk f (nI wd) kd bh v dg')) ∧ ∀ j, 52 ≤ j → c3 j = c j := by
      rw [hfi]
      rcases hw3 with ⟨h1, h2, h3, h4⟩ | ⟨h1, h2, h3⟩
      · exact ⟨Or.inl ⟨h1, h2, _, h3⟩, fun j h => (h4 j (by omega) (by omega)).trans ((hs2 j (by omega) (by omega)).trans (hs1 j (by omega) (by omega)))⟩
      · rw [h3]; exact ⟨Or.inr ⟨h1, h2, _, hM2⟩, fun j h => (hs2 j (by omega) (by omega)).trans (hs1 j (by omega) (by omega))⟩
    exact mx_iret hx hb hr hlocks hP hS (hq) dX3_fillWithInteger_117
  refine lv_lookup (off := 164) (tgt := 178) hx hb dX3_fillWithInteger_14 (by decide) ((lv_osw h88 (by decide)).trans ((lv_osw h100 (by decide)).trans ((lv_osw h111 (by decide)).trans ((lv_osw h120 (by decide)).trans (rfl))))) (by decide) ?_
  refine lv_aload_n hx hb dX3_fillWithInteger_178 rfl (lv_at hl 0 rfl) ?_
  refine mx_get (ci := 3) (v := .ref (ad 50)) (C := RX3) (T := TX3) (N := 9) hx hb hts inX3 hown hK hP (by omega : 0 < n) hM1.1 rfl 8 (by decide) (hts _ wm_85) (fun _ h9 => h9) rfl dX3_fillWithInteger_179 ?_
  refine lv_lload_n hx hb dX3_fillWithInteger_182 rfl (lv_at hl 1 rfl) ?_
  refine lv_l2i (v := x.toInt32) hx hb dX3_fillWithInteger_183 rfl ?_
  refine mx_ci (va_runV (As := [.int x.toInt32]) (rest := []) ⟨hx, hb, hml, hown, hts⟩ (c_Text_add l D ca n ad c1 (k := 50) (by omega) hT1 x.toInt32 _) (cwV 1 hts (gV wm_161 wm_118 wm_119 wm_2 wm_120) rfl rfl rfl (by decide +kernel) ⟨Nat.le_of_ble_eq_true rfl, Nat.le_of_ble_eq_true rfl⟩) (mx_pv (C := RX2) (T := TX2) (N := 2) (ci := 2) hK hP hD hN (by omega : 50 < n) hM1.2.2.2.2.2.2.2.2.1.cell rfl) rfl rfl hl.1 rfl (lv_room (Nat.le_of_ble_eq_true rfl)) dX3_fillWithInteger_184 ⟨Nat.zero_le _, Nat.zero_le _⟩) (Nat.le_refl _) hS (fun r2 c2 H locs hw2 hP hS => ?_)
  obtain ⟨-, -, hs2, hT2⟩ := hw2.resolve_right (fun h => absurd h.1 (by decide))
  rw [List.nil_append] at hT2
  have hM2 := hM1.dig hs2 hT2
  refine lv_pop hx hb dX3_fillWithInteger_187 rfl ?_
  refine lv_aload_n hx hb dX3_fillWithInteger_188 rfl (lv_at hl 0 rfl) ?_
  refine lv_iconst (v := 0) hx hb dX3_fillWithInteger_189 (by decide) ?_
  refine lv_aload_n hx hb dX3_fillWithInteger_190 rfl (lv_at hl 0 rfl) ?_
  refine mx_get (ci := 3) (v := .ref (ad 50)) (C := RX3) (T := TX3) (N := 9) hx hb hts inX3 hown hK hP (by omega : 0 < n) hM2.1 rfl 8 (by decide) (hts _ wm_85) (fun _ h9 => h9) rfl dX3_fillWithInteger_191 ?_
  refine lv_iconst (v := 0) hx hb dX3_fillWithInteger_194 (by decide) ?_
  refine mx_i (bI false) (rfl) ?_
  refine mx_ci (va_runV (As := [.int 0, .ref (ad 50), .int (bI false)]) (rest := []) ⟨hx, hb, hml, hown, hts⟩ (c_padded l D ca n ad c2 hn hM2 hwd 0 false (kb := 50) (by omega) hM2.2.2.2.2.2.2.2.2.1 (by omega) _) (cwV 3 hts (gV wm_211 wm_213 ws_6 wm_1 wm_214) rfl rfl rfl (by decide +kernel) ⟨Nat.le_of_ble_eq_true rfl, Nat.le_of_ble_eq_true rfl⟩) (mx_pv (C := RX3) (T := TX3) (N := 9) (ci := 3) hK hP hD hN (by omega : 0 < n) hM2.1 rfl) rfl rfl hl.1 rfl (lv_room (Nat.le_of_ble_eq_true rfl)) dX3_fillWithInteger_195 ⟨Nat.zero_le _, Nat.zero_le _⟩) (Nat.le_refl _) hS (fun r c3 H locs hw3 hP hS => ?_)
  have hfi : fInt f wd kd x = pad f.1 false wd (sgL 0) ([by8 x.toInt32]) := by unfold fInt; rw [if_neg h88, if_neg h100, if_neg h111, if_neg h120]
  have hq : ((md.length + (fInt f wd kd x).length ≤ 1024 ∧ r = 0 ∧ ∃ dg', tMF ca ad c3 tp pt (md ++ fInt f wd kd x) ar ac tk f (nI wd) kd bh v dg') ∨ (¬ md.length + (fInt f wd kd x).length ≤ 1024 ∧ r = -5 ∧ ∃ dg', tMF ca ad c3 tp pt md ar ac tk f (nI wd) kd bh v dg')) ∧ ∀ j, 52 ≤ j → c3 j = c j := by
    rw [hfi]
    rcases hw3 with ⟨h1, h2, h3, h4⟩ | ⟨h1, h2, h3⟩
    · exact ⟨Or.inl ⟨h1, h2, _, h3⟩, fun j h => (h4 j (by omega) (by omega)).trans ((hs2 j (by omega) (by omega)).trans (hs1 j (by omega) (by omega)))⟩
    · rw [h3]; exact ⟨Or.inr ⟨h1, h2, _, hM2⟩, fun j h => (hs2 j (by omega) (by omega)).trans (hs1 j (by omega) (by omega))⟩
  exact mx_iret hx hb hr hlocks hP hS (hq) dX3_fillWithInteger_198
set_option maxHeartbeats 4000000 in
set_option maxRecDepth 100000 in
/-- fillPlace -/
theorem c_fillPlace (l : Launch) (D : va_G) (ca : Nat → ClassId) (n : Nat) (ad : Nat → Nat) (c : Nat → va_E) {tp pt md dg : List Nat} {ar : Nat → List Nat} {ac tk : Nat} {f : fl4} {wd : Nat} {kd bh : Int32} {v : Int64} (hn : 52 ≤ n) (hM : tMF ca ad c tp pt md ar ac tk f (nI wd) kd bh v dg) (hwd : wd ≤ 100000) : mInt l yX3_fillPlace wsX3_fillPlace ({ frames := 4, cells := 0, slots := 0, locals := 92 }) [.ref (ad 0)] D (tTY ca) n ad c (fun r c' => (∃ tk' v' dg' md', tMF ca ad c' tp pt md' ar ac tk' f (nI wd) kd bh v' dg' ∧ (((pcs ar ac tk f wd kd).1 = 0 ∧ md.length + (pcs ar ac tk f wd kd).2.1.length ≤ 1024 ∧ r = 0 ∧ md' = md ++ (pcs ar ac tk f wd kd).2.1 ∧ tk' = (pcs ar ac tk f wd kd).2.2) ∨ ((pcs ar ac tk f wd kd).1 = 0 ∧ ¬ md.length + (pcs ar ac tk f wd kd).2.1.length ≤ 1024 ∧ r = -5) ∨ (¬ (pcs ar ac tk f wd kd).1 = 0 ∧ r = (pcs ar ac tk f wd kd).1))) ∧ ∀ j, 52 ≤ j → c' j = c j) := by
  intro sz
  refine Met.ofW (cc := cX3_fillPlace) (maxL := 2) (ret := (some .int)) (by decide) rfl ?_
  intro pg9 ev9 s m args below meth cd s₁ B hml hv
  obtain ⟨rfl, hsz, hP, hK, hD0, hN⟩ := hv
  have hx := B.exec
  have hb := B.bytes
  have hr := B.returns
  have hts := fun (w : Cond) (h : w ∈ WSa) => atoms_spec (ws := wsX3_fillPlace) B.pre w (List.mem_cons_of_mem _ h)
  have hown : s.vm.findClass RX3 = some m.cls := findClass_of_methodNamed B.named
  have hlocks := B.notSynchronized
  subst hsz
  have hD : ∀ c, va_D (fun _ => True) (mw n ad c) := fun c' => mw_D hD0 c'
  have hS : va_S (mA n ad s.heap.size) s.heap s.heap [] := va_S.rf
  have hl := lv_entry ([.ref (ad 0)]) (n := 2) (Nat.le_of_ble_eq_true rfl)
  rw [lg_entry_eq]
  generalize (lg_sl ([.ref (ad 0)]) ++ List.replicate (2 - (lg_sl ([.ref (ad 0)])).length) Slot.unset).toArray = ls at hl ⊢
  have hl : lv_has ls 2 [(0, .ref (ad 0))] := hl
  have hac := hM.2.2.2.2.2.2.2.2.2.1
  have htk := hM.2.2.2.2.2.2.2.2.2.2
  obtain ⟨g7, h7, hg7⟩ := hM.2.2.2.2.1
  have hle5 := hM.2.2.2.1.le
  refine lv_aload_n hx hb dX3_fillPlace_0 rfl (lv_at hl 0 rfl) ?_
  refine mx_get (ci := 3) (v := .ref (ad 48)) (C := RX3) (T := TX3) (N := 9) hx hb hts inX3 hown hK hP (by omega : 0 < n) hM.1 rfl 6 (by decide) (hts _ wm_83) (fun _ h9 => h9) rfl dX3_fillPlace_1 ?_
  refine mx_getN (ci := 1) (v := .int kd) (C := RX1) (T := TX1) (N := 7) hx hb hts inX1 hown hK hP (by omega : 48 < n) hM.2.2.2.2.2.2.1 rfl 5 (by decide) (hN.1 _ nn_6) (fun _ h9 => h9) rfl dX3_fillPlace_4 ?_
  refine lv_bipush (v := 37) hx hb dX3_fillPlace_7 (by decide) ?_
  refine lv_icmp_ne (tgt := 31) hx hb dX3_fillPlace_9 (by decide) (fun hc => ?_) (fun hc => ?_)
  · skip
    refine lv_aload_n hx hb dX3_fillPlace_31 rfl (lv_at hl 0 rfl) ?_
    refine mx_get (ci := 3) (v := .int (nI tk)) (C := RX3) (T := TX3) (N := 9) hx hb hts inX3 hown hK hP (by omega : 0 < n) hM.1 rfl 5 (by decide) (hts _ wm_82) (fun _ h9 => h9) rfl dX3_fillPlace_32 ?_
    refine lv_if_lt (tgt := 61) hx hb dX3_fillPlace_35 (by decide) (fun hc1 => ?_) (fun hc1 => ?_)
    · skip
      exact absurd hc1 (nI_pos (by omega))
    · skip
      refine lv_aload_n hx hb dX3_fillPlace_38 rfl (lv_at hl 0 rfl) ?_
      refine mx_get (ci := 3) (v := .int (nI tk)) (C := RX3) (T := TX3) (N := 9) hx hb hts inX3 hown hK hP (by omega : 0 < n) hM.1 rfl 5 (by decide) (hts _ wm_82) (fun _ h9 => h9) rfl dX3_fillPlace_39 ?_
      refine lv_aload_n hx hb dX3_fillPlace_42 rfl (lv_at hl 0 rfl) ?_
      refine mx_get (ci := 3) (v := .int (nI ac)) (C := RX3) (T := TX3) (N := 9) hx hb hts inX3 hown hK hP (by omega : 0 < n) hM.1 rfl 4 (by decide) (hts _ wm_81) (fun _ h9 => h9) rfl dX3_fillPlace_43 ?_
      refine lv_icmp_ge (tgt := 61) hx hb dX3_fillPlace_46 (by decide) (fun hc2 => ?_) (fun hc2 => ?_)
      · skip
        have hge : ac ≤ tk := (nI_leI (by omega) (by omega)).mp hc2
        have hP9 : pcs ar ac tk f wd kd = (-3, [], tk) := by unfold pcs; rw [if_neg hc, if_pos hge]
        refine lv_bipush (v := (-3)) hx hb dX3_fillPlace_61 (by decide) ?_
        exact mx_iret hx hb hr hlocks hP hS (⟨⟨tk, v, dg, md, hM, by rw [hP9]; exact Or.inr (Or.inr ⟨by show ¬ (-3 : Int32) = 0; decide, rfl⟩)⟩, fun j h => rfl⟩) dX3_fillPlace_63
      · skip
        have hlt : tk < ac := by have := (not_congr (nI_leI (by omega) (by omega))).mp hc2; omega
        refine lv_aload_n hx hb dX3_fillPlace_49 rfl (lv_at hl 0 rfl) ?_
        refine mx_get (ci := 3) (v := .int (nI tk)) (C := RX3) (T := TX3) (N := 9) hx hb hts inX3 hown hK hP (by omega : 0 < n) hM.1 rfl 5 (by decide) (hts _ wm_82) (fun _ h9 => h9) rfl dX3_fillPlace_50 ?_
        refine lv_aload_n hx hb dX3_fillPlace_53 rfl (lv_at hl 0 rfl) ?_
        refine mx_get (ci := 3) (v := .ref (ad 7)) (C := RX3) (T := TX3) (N := 9) hx hb hts inX3 hown hK hP (by omega : 0 < n) hM.1 rfl 3 (by decide) (hts _ wm_80) (fun _ h9 => h9) rfl dX3_fillPlace_54 ?_
        refine mx_alen (v := nI 20) hx hb hK hP (by omega : 7 < n) 1 h7 rfl rfl dX3_fillPlace_57 ?_
        refine lv_icmp_lt (tgt := 64) hx hb dX3_fillPlace_58 (by decide) (fun hc3 => ?_) (fun hc3 => ?_)
        · skip
          have hng : ¬ ac ≤ tk := by omega
          refine lv_aload_n hx hb dX3_fillPlace_64 rfl (lv_at hl 0 rfl) ?_
          refine mx_get (ci := 3) (v := .ref (ad 7)) (C := RX3) (T := TX3) (N := 9) hx hb hts inX3 hown hK hP (by omega : 0 < n) hM.1 rfl 3 (by decide) (hts _ wm_80) (fun _ h9 => h9) rfl dX3_fillPlace_65 ?_
          refine lv_aload_n hx hb dX3_fillPlace_68 rfl (lv_at hl 0 rfl) ?_
          refine mx_get (ci := 3) (v := .int (nI tk)) (C := RX3) (T := TX3) (N := 9) hx hb hts inX3 hown hK hP (by omega : 0 < n) hM.1 rfl 5 (by decide) (hts _ wm_82) (fun _ h9 => h9) rfl dX3_fillPlace_69 ?_
          refine mx_aald hx hb hK hP (by omega : 7 < n) 1 h7 rfl (vp_in_nI (by omega) (by omega)) (.ref (ad (8 + 2 * tk))) (by rw [nI_clamp (by omega), hg7 tk (by omega)]; rfl) dX3_fillPlace_72 ?_
          refine lv_astore_n (lv' := [(1, .ref (ad (8 + 2 * tk))), (0, .ref (ad 0))]) hx hb dX3_fillPlace_73 rfl hl (by decide) rfl (fun ls hl => ?_)
          refine lv_aload_n hx hb dX3_fillPlace_74 rfl (lv_at hl 1 rfl) ?_
          refine lv_dup hx hb dX3_fillPlace_75 rfl ?_
          refine mx_get (ci := 3) (v := .int (nI tk)) (C := RX3) (T := TX3) (N := 9) hx hb hts inX3 hown hK hP (by omega : 0 < n) hM.1 rfl 5 (by decide) (hts _ wm_82) (fun _ h9 => h9) rfl dX3_fillPlace_76 ?_
          refine lv_iconst (v := 1) hx hb dX3_fillPlace_79 (by decide) ?_
          refine lv_iadd hx hb dX3_fillPlace_80 ?_
          refine mx_i (nI (tk + 1)) (nI_1 tk) ?_
          refine mx_put (ci := 3) (v := .int (nI (tk + 1))) (ty := .int) (C := RX3) (T := TX3) (N := 9) hx hb hts inX3 tyX3 tyX3_ok nmX3 hown hK hP hD hS (by omega : 0 < n) hM.1 rfl 5 (by decide) (hts _ wm_82) (fun _ h9 => h9) rfl (by decide +kernel) rfl rfl (Nat.le_of_ble_eq_true rfl) dX3_fillPlace_81 (fun H locs hP hS => ?_)
          obtain ⟨c1, ec1⟩ : ∃ z : Nat → va_E, z = va_up c 0 (.inr (3, [.ref (ad 1), .ref (ad 3), .ref (ad 5), .ref (ad 7), .int (nI ac), .int (nI (tk + 1)), .ref (ad 48), .ref (ad 49), .ref (ad 50)])) := ⟨_, rfl⟩
          have hP : va_P D vwCl (mw n ad c1) H := by rw [ec1]; exact hP
          have hsc1 : ∀ j, j ≠ 0 → c1 j = c j := fun j h => by rw [ec1]; exact va_up_ne _ _ h
          have hcc1 : c1 0 = .inr (3, [.ref (ad 1), .ref (ad 3), .ref (ad 5), .ref (ad 7), .int (nI ac), .int (nI (tk + 1)), .ref (ad 48), .ref (ad 49), .ref (ad 50)]) := by rw [ec1]; exact va_up_self _ _ _
          have hM1 := hM.cel hsc1 hcc1 hac (by omega : tk + 1 ≤ 20)
          have hTw := hM1.2.2.2.2.2.1 tk (by omega)
          refine lv_aload_n hx hb dX3_fillPlace_84 rfl (lv_at hl 1 rfl) ?_
          refine mx_get (ci := 3) (v := .ref (ad 48)) (C := RX3) (T := TX3) (N := 9) hx hb hts inX3 hown hK hP (by omega : 0 < n) hM1.1 rfl 6 (by decide) (hts _ wm_83) (fun _ h9 => h9) rfl dX3_fillPlace_85 ?_
          refine mx_getN (ci := 1) (v := .int kd) (C := RX1) (T := TX1) (N := 7) hx hb hts inX1 hown hK hP (by omega : 48 < n) hM1.2.2.2.2.2.2.1 rfl 5 (by decide) (hN.1 _ nn_6) (fun _ h9 => h9) rfl dX3_fillPlace_88 ?_
          refine lv_bipush (v := 115) hx hb dX3_fillPlace_91 (by decide) ?_
          refine lv_icmp_ne (tgt := 104) hx hb dX3_fillPlace_93 (by decide) (fun hc4 => ?_) (fun hc4 => ?_)
          · skip
            refine lv_aload_n hx hb dX3_fillPlace_104 rfl (lv_at hl 1 rfl) ?_
            refine mx_get (ci := 3) (v := .ref (ad 49)) (C := RX3) (T := TX3) (N := 9) hx hb hts inX3 hown hK hP (by omega : 0 < n) hM1.1 rfl 7 (by decide) (hts _ wm_84) (fun _ h9 => h9) rfl dX3_fillPlace_105 ?_
            refine lv_aload_n hx hb dX3_fillPlace_108 rfl (lv_at hl 0 rfl) ?_
            refine mx_ci (va_runV (As := [.ref (ad (8 + 2 * tk))]) (rest := []) ⟨hx, hb, hml, hown, hts⟩ (c_Num_read l D ca n ad c1 (k := 49) (by omega) hM1.2.2.2.2.2.2.2.1 (k2 := 8 + 2 * tk) (by omega) hTw (by omega) _) (cwV 1 hts (gV wm_222 wm_223 wm_224 wm_4 wm_225) rfl rfl rfl (by decide +kernel) ⟨Nat.le_of_ble_eq_true rfl, Nat.le_of_ble_eq_true rfl⟩) (mx_pv (C := RX0) (T := TX0) (N := 1) (ci := 0) hK hP hD hN (by omega : 49 < n) hM1.2.2.2.2.2.2.2.1 rfl) rfl rfl hl.1 rfl (lv_room (Nat.le_of_ble_eq_true rfl)) dX3_fillPlace_109 ⟨Nat.zero_le _, Nat.zero_le _⟩) (Nat.le_refl _) hS (fun r1 c2 H locs hw hP hS => ?_)
            refine lv_if_ne (tgt := 118) hx hb dX3_fillPlace_112 (by decide) (fun hc5 => ?_) (fun hc5 => ?_)
            · skip
              obtain ⟨x, hx1, -, hV2, hs2⟩ := hw.resolve_right (fun h => hc5 h.2.1)
              have hM2 := hM1.num hs2 hV2
              have hP9 : pcs ar ac tk f wd kd = (0, fInt f wd kd x, tk + 1) := by unfold pcs; rw [if_neg hc, if_neg hng, if_neg hc4, hx1]
              refine lv_aload_n hx hb dX3_fillPlace_118 rfl (lv_at hl 1 rfl) ?_
              refine lv_aload_n hx hb dX3_fillPlace_119 rfl (lv_at hl 1 rfl) ?_
              refine mx_get (ci := 3) (v := .ref (ad 49)) (C := RX3) (T := TX3) (N := 9) hx hb hts inX3 hown hK hP (by omega : 0 < n) hM2.1 rfl 7 (by decide) (hts _ wm_84) (fun _ h9 => h9) rfl dX3_fillPlace_120 ?_
              refine mx_getN (ci := 0) (v := .long x) (C := RX0) (T := TX0) (N := 1) hx hb hts inX0 hown hK hP (by omega : 49 < n) hM2.2.2.2.2.2.2.2.1 rfl 0 (by decide) (hN.1 _ nn_8) (fun _ h9 => h9) rfl dX3_fillPlace_123 ?_
              refine mx_ci (va_runV (As := [.long x]) (rest := []) ⟨hx, hb, hml, hown, hts⟩ (c_fillInt l D ca n ad c2 hn hM2 hwd x _) (cwV 1 hts (gV wm_246 wm_248 ws_10 wm_1 wm_249) rfl rfl rfl (by decide +kernel) ⟨Nat.le_of_ble_eq_true rfl, Nat.le_of_ble_eq_true rfl⟩) (mx_pv (C := RX3) (T := TX3) (N := 9) (ci := 3) hK hP hD hN (by omega : 0 < n) hM2.1 rfl) rfl rfl hl.1 rfl (lv_room (Nat.le_of_ble_eq_true rfl)) dX3_fillPlace_126 ⟨Nat.zero_le _, Nat.zero_le _⟩) (Nat.le_refl _) hS (fun r c3 H locs hw3 hP hS => ?_)
              have hq : (∃ tk' v' dg' md', tMF ca ad c3 tp pt md' ar ac tk' f (nI wd) kd bh v' dg' ∧ (((pcs ar ac tk f wd kd).1 = 0 ∧ md.length + (pcs ar ac tk f wd kd).2.1.length ≤ 1024 ∧ r = 0 ∧ md' = md ++ (pcs ar ac tk f wd kd).2.1 ∧ tk' = (pcs ar ac tk f wd kd).2.2) ∨ ((pcs ar ac tk f wd kd).1 = 0 ∧ ¬ md.length + (pcs ar ac tk f wd kd).2.1.length ≤ 1024 ∧ r = -5) ∨ (¬ (pcs ar ac tk f wd kd).1 = 0 ∧ r = (pcs ar ac tk f wd kd).1))) ∧ ∀ j, 52 ≤ j → c3 j = c j := by
                rw [hP9]
                obtain ⟨hw3, hs3⟩ := hw3
                refine ⟨?_, fun j h => (hs3 j h).trans ((hs2 j (by omega)).trans (hsc1 j (by omega)))⟩
                rcases hw3 with ⟨h1, h2, dg', h3⟩ | ⟨h1, h2, dg', h3⟩
                · exact ⟨_, _, _, _, h3, Or.inl ⟨rfl, h1, h2, rfl, rfl⟩⟩
                · exact ⟨_, _, _, _, h3, Or.inr (Or.inl ⟨rfl, h1, h2⟩)⟩
              exact mx_iret hx hb hr hlocks hP hS (hq) dX3_fillPlace_129
            · skip
              obtain ⟨hx1, -, ⟨x, hV2⟩, hs2⟩ := hw.resolve_left (fun h => by obtain ⟨v9, h1, h2, -⟩ := h; rw [h2] at hc5; exact absurd hc5 (by decide))
              have hM2 := hM1.num hs2 hV2
              have hP9 : pcs ar ac tk f wd kd = (-4, [], tk + 1) := by unfold pcs; rw [if_neg hc, if_neg hng, if_neg hc4, hx1]
              refine lv_bipush (v := (-4)) hx hb dX3_fillPlace_115 (by decide) ?_
              exact mx_iret hx hb hr hlocks hP hS (⟨⟨_, _, _, _, hM2, by rw [hP9]; exact Or.inr (Or.inr ⟨by show ¬ (-4 : Int32) = 0; decide, rfl⟩)⟩, fun j h => (hs2 j (by omega)).trans (hsc1 j (by omega))⟩) dX3_fillPlace_117
          · skip
            have hP9 : pcs ar ac tk f wd kd = (0, pad f.1 false wd (sgL 0) (ar tk), tk + 1) := by unfold pcs; rw [if_neg hc, if_neg hng, if_pos hc4]
            refine lv_aload_n hx hb dX3_fillPlace_96 rfl (lv_at hl 1 rfl) ?_
            refine lv_iconst (v := 0) hx hb dX3_fillPlace_97 (by decide) ?_
            refine lv_aload_n hx hb dX3_fillPlace_98 rfl (lv_at hl 0 rfl) ?_
            refine lv_iconst (v := 0) hx hb dX3_fillPlace_99 (by decide) ?_
            refine mx_i (bI false) (rfl) ?_
            refine mx_ci (va_runV (As := [.int 0, .ref (ad (8 + 2 * tk)), .int (bI false)]) (rest := []) ⟨hx, hb, hml, hown, hts⟩ (c_padded l D ca n ad c1 hn hM1 hwd 0 false (kb := 8 + 2 * tk) (by omega) hTw (by omega) _) (cwV 3 hts (gV wm_211 wm_213 ws_6 wm_1 wm_214) rfl rfl rfl (by decide +kernel) ⟨Nat.le_of_ble_eq_true rfl, Nat.le_of_ble_eq_true rfl⟩) (mx_pv (C := RX3) (T := TX3) (N := 9) (ci := 3) hK hP hD hN (by omega : 0 < n) hM1.1 rfl) rfl rfl hl.1 rfl (lv_room (Nat.le_of_ble_eq_true rfl)) dX3_fillPlace_100 ⟨Nat.zero_le _, Nat.zero_le _⟩) (Nat.le_refl _) hS (fun r c2 H locs hw hP hS => ?_)
            have hq : (∃ tk' v' dg' md', tMF ca ad c2 tp pt md' ar ac tk' f (nI wd) kd bh v' dg' ∧ (((pcs ar ac tk f wd kd).1 = 0 ∧ md.length + (pcs ar ac tk f wd kd).2.1.length ≤ 1024 ∧ r = 0 ∧ md' = md ++ (pcs ar ac tk f wd kd).2.1 ∧ tk' = (pcs ar ac tk f wd kd).2.2) ∨ ((pcs ar ac tk f wd kd).1 = 0 ∧ ¬ md.length + (pcs ar ac tk f wd kd).2.1.length ≤ 1024 ∧ r = -5) ∨ (¬ (pcs ar ac tk f wd kd).1 = 0 ∧ r = (pcs ar ac tk f wd kd).1))) ∧ ∀ j, 52 ≤ j → c2 j = c j := by
              rw [hP9]
              rcases hw with ⟨h1, h2, h3, h4⟩ | ⟨h1, h2, h3⟩
              · exact ⟨⟨_, _, _, _, h3, Or.inl ⟨rfl, h1, h2, rfl, rfl⟩⟩, fun j h => (h4 j (by omega) (by omega)).trans (hsc1 j (by omega))⟩
              · rw [h3]; exact ⟨⟨_, _, _, _, hM1, Or.inr (Or.inl ⟨rfl, h1, h2⟩)⟩, fun j h => hsc1 j (by omega)⟩
            exact mx_iret hx hb hr hlocks hP hS (hq) dX3_fillPlace_103
        · skip
          exact absurd (nI_lt (by omega) (by omega)) hc3
  · skip
    have hP9 : pcs ar ac tk f wd kd = (0, [37], tk) := by unfold pcs; rw [if_pos hc]
    refine lv_aload_n hx hb dX3_fillPlace_12 rfl (lv_at hl 0 rfl) ?_
    refine mx_get (ci := 3) (v := .ref (ad 5)) (C := RX3) (T := TX3) (N := 9) hx hb hts inX3 hown hK hP (by omega : 0 < n) hM.1 rfl 2 (by decide) (hts _ wm_79) (fun _ h9 => h9) rfl dX3_fillPlace_13 ?_
    refine lv_bipush (v := 37) hx hb dX3_fillPlace_16 (by decide) ?_
    refine mx_ci (va_runV (As := [.int 37]) (rest := []) ⟨hx, hb, hml, hown, hts⟩ (c_Text_add l D ca n ad c (k := 5) (by omega) hM.2.2.2.1 37 _) (cwV 1 hts (gV wm_161 wm_118 wm_119 wm_2 wm_120) rfl rfl rfl (by decide +kernel) ⟨Nat.le_of_ble_eq_true rfl, Nat.le_of_ble_eq_true rfl⟩) (mx_pv (C := RX2) (T := TX2) (N := 2) (ci := 2) hK hP hD hN (by omega : 5 < n) hM.2.2.2.1.cell rfl) rfl rfl hl.1 rfl (lv_room (Nat.le_of_ble_eq_true rfl)) dX3_fillPlace_18 ⟨Nat.zero_le _, Nat.zero_le _⟩) (Nat.le_refl _) hS (fun r c1 H locs hw hP hS => ?_)
    refine lv_if_eq (tgt := 28) hx hb dX3_fillPlace_21 (by decide) (fun hc2 => ?_) (fun hc2 => ?_)
    · skip
      obtain ⟨h1, -, hcE⟩ := hw.resolve_left (fun h => by rw [h.2.1] at hc2; exact absurd hc2 (by decide))
      rw [hcE] at hP
      refine lv_bipush (v := (-5)) hx hb dX3_fillPlace_28 (by decide) ?_
      exact mx_iret hx hb hr hlocks hP hS (⟨⟨tk, v, dg, md, hM, by rw [hP9]; exact Or.inr (Or.inl ⟨rfl, by simp; omega, rfl⟩)⟩, fun j h => rfl⟩) dX3_fillPlace_30
    · skip
      obtain ⟨h1, -, hs1, hT1⟩ := hw.resolve_right (fun h => hc2 h.2.1)
      refine lv_iconst (v := 0) hx hb dX3_fillPlace_24 (by decide) ?_
      refine lv_goto (tgt := 30) hx hb dX3_fillPlace_25 (by decide) ?_
      exact mx_iret hx hb hr hlocks hP hS (⟨⟨tk, v, dg, _, hM.made hs1 hT1, by rw [hP9]; exact Or.inl ⟨rfl, by simp; omega, rfl, rfl, rfl⟩⟩, fun j h => hs1 j (by omega) (by omega)⟩) dX3_fillPlace_30
end
section
set_option maxHeartbeats 4000000 in
set_option maxRecDepth 100000 in
/-- make -/
theorem c_make (l : Launch) (D : va_G) (ca : Nat → ClassId) (n : Nat) (ad : Nat → Nat) (c : Nat → va_E) {tp pt md dg : List Nat} {ar : Nat → List Nat} {ac tk : Nat} {f : fl4} {w kd bh : Int32} {v : Int64} (hn : 52 ≤ n) (hM : tMF ca ad c tp pt md ar ac tk f w kd bh v dg) : mInt l yX3_make wsX3_make ({ frames := 5, cells := 0, slots := 0, locals := 113 }) [.ref (ad 0)] D (tTY ca) n ad c (fun r c' => r = (mkF ar ac (pt.length + 1) pt 0 []).1 ∧ tMS ca ad c' tp pt (mkF ar ac (pt.length + 1) pt 0 []).2 ar ac ∧ ∀ j, 52 ≤ j → c' j = c j) := by
  intro sz
  refine Met.ofW (cc := cX3_make) (maxL := 4) (ret := (some .int)) (by decide) rfl ?_
  intro pg9 ev9 s m args below meth cd s₁ B hml hv
  obtain ⟨rfl, hsz, hP, hK, hD0, hN⟩ := hv
  have hx := B.exec
  have hb := B.bytes
  have hr := B.returns
  have hts := fun (w : Cond) (h : w ∈ WSa) => atoms_spec (ws := wsX3_make) B.pre w (List.mem_cons_of_mem _ h)
  have hown : s.vm.findClass RX3 = some m.cls := findClass_of_methodNamed B.named
  have hlocks := B.notSynchronized
  subst hsz
  have hD : ∀ c, va_D (fun _ => True) (mw n ad c) := fun c' => mw_D hD0 c'
  have hS : va_S (mA n ad s.heap.size) s.heap s.heap [] := va_S.rf
  have hl := lv_entry ([.ref (ad 0)]) (n := 4) (Nat.le_of_ble_eq_true rfl)
  rw [lg_entry_eq]
  generalize (lg_sl ([.ref (ad 0)]) ++ List.replicate (4 - (lg_sl ([.ref (ad 0)])).length) Slot.unset).toArray = ls at hl ⊢
  have hl : lv_has ls 4 [(0, .ref (ad 0))] := hl
  have hle3 := hM.2.2.1.le
  have hb3 := hM.2.2.1.b8
  generalize hRR : mkF ar ac (pt.length + 1) pt 0 [] = RR
  refine lv_aload_n hx hb dX3_make_0 rfl (lv_at hl 0 rfl) ?_
  refine mx_get (ci := 3) (v := .ref (ad 5)) (C := RX3) (T := TX3) (N := 9) hx hb hts inX3 hown hK hP (by omega : 0 < n) hM.1 rfl 2 (by decide) (hts _ wm_79) (fun _ h9 => h9) rfl dX3_make_1 ?_
  refine mx_cv (va_runV (As := []) (rest := []) ⟨hx, hb, hml, hown, hts⟩ (c_Text_empty l D ca n ad c (k := 5) (by omega) hM.2.2.2.1 _) (cwV 0 hts (gV wm_133 wm_134 wm_135 wm_2 wm_136) rfl rfl rfl (by decide +kernel) ⟨Nat.le_of_ble_eq_true rfl, Nat.le_of_ble_eq_true rfl⟩) (mx_pv (C := RX2) (T := TX2) (N := 2) (ci := 2) hK hP hD hN (by omega : 5 < n) hM.2.2.2.1.cell rfl) rfl rfl hl.1 rfl (lv_room (Nat.le_of_ble_eq_true rfl)) dX3_make_4 ⟨Nat.zero_le _, Nat.zero_le _⟩) (Nat.le_refl _) hS (fun a1 H locs hw1 hP hS => ?_)
  obtain ⟨hsa, hTa⟩ := hw1
  have hMa := hM.made hsa hTa
  refine lv_aload_n hx hb dX3_make_7 rfl (lv_at hl 0 rfl) ?_
  refine lv_iconst (v := 0) hx hb dX3_make_8 (by decide) ?_
  refine mx_i (nI 0) (nI_0.symm) ?_
  refine mx_put (ci := 3) (v := .int (nI 0)) (ty := .int) (C := RX3) (T := TX3) (N := 9) hx hb hts inX3 tyX3 tyX3_ok nmX3 hown hK hP hD hS (by omega : 0 < n) hMa.1 rfl 5 (by decide) (hts _ wm_82) (fun _ h9 => h9) rfl (by decide +kernel) rfl rfl (Nat.le_of_ble_eq_true rfl) dX3_make_9 (fun H locs hP hS => ?_)
  obtain ⟨a2, ea2⟩ : ∃ z : Nat → va_E, z = va_up a1 0 (.inr (3, [.ref (ad 1), .ref (ad 3), .ref (ad 5), .ref (ad 7), .int (nI ac), .int (nI 0), .ref (ad 48), .ref (ad 49), .ref (ad 50)])) := ⟨_, rfl⟩
  have hP : va_P D vwCl (mw n ad a2) H := by rw [ea2]; exact hP
  have hsa2 : ∀ j, j ≠ 0 → a2 j = a1 j := fun j h => by rw [ea2]; exact va_up_ne _ _ h
  have hca2 : a2 0 = .inr (3, [.ref (ad 1), .ref (ad 3), .ref (ad 5), .ref (ad 7), .int (nI ac), .int (nI 0), .ref (ad 48), .ref (ad 49), .ref (ad 50)]) := by rw [ea2]; exact va_up_self _ _ _
  have hMb := hMa.cel hsa2 hca2 hM.2.2.2.2.2.2.2.2.2.1 (by omega : 0 ≤ 20)
  have loop : ∀ (q1 : Nat) (i : Nat) (j : Nat) (tk1 : Nat) (md1 : List Nat) (c1 : Nat → va_E) (H : Heap) (locs : List Loc) (ls : Array Slot), (i ≤ pt.length) → (j ≤ i) → (pt.length < i + q1) → (RR = mkF ar ac q1 (pt.drop i) tk1 md1) → (∃ f w kd bh v dg, tMF ca ad c1 tp pt md1 ar ac tk1 f w kd bh v dg) → (∀ j, 52 ≤ j → c1 j = c j) → va_P D vwCl (mw n ad c1) H → va_S (mA n ad s.heap.size) s.heap H locs → lv_has ls 4 [(1, .int (nI i)), (2, .int (nI j)), (0, .ref (ad 0))] → W pg9 l ev9 (headSpec wsX3_make ({ frames := 5, cells := 0, slots := 0, locals := 113 })).room s m ([.ref (ad 0)] : List Value).toArray below meth cd H locs 0 0 (MQ below (va_Qi (fun r c' => r = RR.1 ∧ tMS ca ad c' tp pt RR.2 ar ac ∧ ∀ j, 52 ≤ j → c' j = c j) (mW D n ad) (mA n ad s.heap.size)) ([.ref (ad 0)] : List Value).toArray s 0 0 (mA n ad s.heap.size)) (F0 m 16 ls []) := by
    intro q1
    induction q1 with
    | zero => intro i j tk1 md1 c1 H locs ls hi hji hq heq hM1 hs1 hP hS hl; omega
    | succ q1 ih =>
      intro i j tk1 md1 c1 H locs ls hi hji hq heq hM1 hs1 hP hS hl
      obtain ⟨f1, w1, kd1, bh1, v1, dg1, hM1⟩ := hM1
      have hle5 := hM1.2.2.2.1.le
      refine lv_iload_n hx hb dX3_make_16 rfl (lv_at hl 1 rfl) ?_
      refine lv_sipush (v := 400) hx hb dX3_make_17 (by decide) ?_
      refine lv_icmp_ge (tgt := 132) hx hb dX3_make_20 (by decide) (fun hc => ?_) (fun hc => ?_)
      · skip
        have hge : pt.length ≤ i := by have := (nI_leI (a := 400) (by omega) (by omega)).mp hc; omega
        have hend : RR = (nI md1.length, md1) := by rw [heq, dr_nil hge]; rfl
        refine lv_aload_n hx hb dX3_make_132 rfl (lv_at hl 2 rfl) ?_
        refine mx_get (ci := 3) (v := .ref (ad 5)) (C := RX3) (T := TX3) (N := 9) hx hb hts inX3 hown hK hP (by omega : 0 < n) hM1.1 rfl 2 (by decide) (hts _ wm_79) (fun _ h9 => h9) rfl dX3_make_133 ?_
        refine mx_getN (ci := 2) (v := .int (nI md1.length)) (C := RX2) (T := TX2) (N := 2) hx hb hts inX2 hown hK hP (by omega : 5 < n) hM1.2.2.2.1.cell rfl 1 (by decide) (hN.1 _ nn_2) (fun _ h9 => h9) rfl dX3_make_136 ?_
        exact mx_iret hx hb hr hlocks hP hS (⟨by rw [hend], by rw [hend]; exact hM1.ms, hs1⟩) dX3_make_139
      · skip
        refine lv_iload_n hx hb dX3_make_23 rfl (lv_at hl 0 rfl) ?_
        refine lv_aload_n hx hb dX3_make_24 rfl (lv_at hl 2 rfl) ?_
        refine mx_get (ci := 3) (v := .ref (ad 3)) (C := RX3) (T := TX3) (N := 9) hx hb hts inX3 hown hK hP (by omega : 0 < n) hM1.1 rfl 1 (by decide) (hts _ wm_78) (fun _ h9 => h9) rfl dX3_make_25 ?_
        refine mx_getN (ci := 2) (v := .int (nI pt.length)) (C := RX2) (T := TX2) (N := 2) hx hb hts inX2 hown hK hP (by omega : 3 < n) hM1.2.2.1.cell rfl 1 (by decide) (hN.1 _ nn_2) (fun _ h9 => h9) rfl dX3_make_28 ?_
        refine lv_icmp_ge (tgt := 132) hx hb dX3_make_31 (by decide) (fun hc1 => ?_) (fun hc1 => ?_)
        · skip
          have hge : pt.length ≤ i := (nI_leI (by omega) (by omega)).mp hc1
          have hend : RR = (nI md1.length, md1) := by rw [heq, dr_nil hge]; rfl
          refine lv_aload_n hx hb dX3_make_132 rfl (lv_at hl 2 rfl) ?_
          refine mx_get (ci := 3) (v := .ref (ad 5)) (C := RX3) (T := TX3) (N := 9) hx hb hts inX3 hown hK hP (by omega : 0 < n) hM1.1 rfl 2 (by decide) (hts _ wm_79) (fun _ h9 => h9) rfl dX3_make_133 ?_
          refine mx_getN (ci := 2) (v := .int (nI md1.length)) (C := RX2) (T := TX2) (N := 2) hx hb hts inX2 hown hK hP (by omega : 5 < n) hM1.2.2.2.1.cell rfl 1 (by decide) (hN.1 _ nn_2) (fun _ h9 => h9) rfl dX3_make_136 ?_
          exact mx_iret hx hb hr hlocks hP hS (⟨by rw [hend], by rw [hend]; exact hM1.ms, hs1⟩) dX3_make_139
        · skip
          have hlt : i < pt.length := by rcases Nat.lt_or_ge i pt.length with h | h; exact h; exact absurd (nI_le h (by omega)) hc1
          have hb8 : pt.getD i 0 < 256 := hb3 _ (gD_mem hlt)
          rw [dr_cons hlt] at heq
          refine lv_aload_n hx hb dX3_make_34 rfl (lv_at hl 2 rfl) ?_
          refine mx_get (ci := 3) (v := .ref (ad 3)) (C := RX3) (T := TX3) (N := 9) hx hb hts inX3 hown hK hP (by omega : 0 < n) hM1.1 rfl 1 (by decide) (hts _ wm_78) (fun _ h9 => h9) rfl dX3_make_35 ?_
          refine lv_iload_n hx hb dX3_make_38 rfl (lv_at hl 0 rfl) ?_
          refine mx_ci (va_runV (As := [.int (nI i)]) (rest := []) ⟨hx, hb, hml, hown, hts⟩ (c_Text_at l D ca n ad c1 (k := 3) (by omega) hM1.2.2.1 (nI i) _) (cwV 1 hts (gV wm_179 wm_142 wm_143 wm_2 wm_144) rfl rfl rfl (by decide +kernel) ⟨Nat.le_of_ble_eq_true rfl, Nat.le_of_ble_eq_true rfl⟩) (mx_pv (C := RX2) (T := TX2) (N := 2) (ci := 2) hK hP hD hN (by omega : 3 < n) hM1.2.2.1.cell rfl) rfl rfl hl.1 rfl (lv_room (Nat.le_of_ble_eq_true rfl)) dX3_make_39 ⟨Nat.zero_le _, Nat.zero_le _⟩) (Nat.le_refl _) hS (fun r1 c9 H locs hw9 hP hS => ?_)
          obtain ⟨hr1, hcE⟩ := hw9
          rw [hcE] at hP
          refine mx_i (nI (pt.getD i 0)) (by rw [hr1, tAtI_nI (by omega)]; exact if_pos hlt) ?_
          refine lv_bipush (v := 37) hx hb dX3_make_42 (by decide) ?_
          refine lv_icmp_ne (tgt := 85) hx hb dX3_make_44 (by decide) (fun hc2 => ?_) (fun hc2 => ?_)
          · skip
            have hx37 : ¬ pt.getD i 0 = 37 := fun h => hc2 (by rw [h]; rfl)
            rw [mkF_byte hx37] at heq
            refine lv_aload_n hx hb dX3_make_85 rfl (lv_at hl 2 rfl) ?_
            refine mx_get (ci := 3) (v := .ref (ad 5)) (C := RX3) (T := TX3) (N := 9) hx hb hts inX3 hown hK hP (by omega : 0 < n) hM1.1 rfl 2 (by decide) (hts _ wm_79) (fun _ h9 => h9) rfl dX3_make_86 ?_
            refine lv_aload_n hx hb dX3_make_89 rfl (lv_at hl 2 rfl) ?_
            refine mx_get (ci := 3) (v := .ref (ad 3)) (C := RX3) (T := TX3) (N := 9) hx hb hts inX3 hown hK hP (by omega : 0 < n) hM1.1 rfl 1 (by decide) (hts _ wm_78) (fun _ h9 => h9) rfl dX3_make_90 ?_
            refine lv_iload_n hx hb dX3_make_93 rfl (lv_at hl 0 rfl) ?_
            refine mx_ci (va_runV (As := [.int (nI i)]) (rest := [.ref (ad 5)]) ⟨hx, hb, hml, hown, hts⟩ (c_Text_at l D ca n ad c1 (k := 3) (by omega) hM1.2.2.1 (nI i) _) (cwV 1 hts (gV wm_179 wm_142 wm_143 wm_2 wm_144) rfl rfl rfl (by decide +kernel) ⟨Nat.le_of_ble_eq_true rfl, Nat.le_of_ble_eq_true rfl⟩) (mx_pv (C := RX2) (T := TX2) (N := 2) (ci := 2) hK hP hD hN (by omega : 3 < n) hM1.2.2.1.cell rfl) rfl rfl hl.1 rfl (lv_room (Nat.le_of_ble_eq_true rfl)) dX3_make_94 ⟨Nat.zero_le _, Nat.zero_le _⟩) (Nat.le_refl _) hS (fun r2 c9 H locs hw9 hP hS => ?_)
            obtain ⟨hr2, hcE⟩ := hw9
            rw [hcE] at hP
            refine mx_i (nI (pt.getD i 0)) (by rw [hr2, tAtI_nI (by omega)]; exact if_pos hlt) ?_
            refine mx_ci (va_runV (As := [.int (nI (pt.getD i 0))]) (rest := []) ⟨hx, hb, hml, hown, hts⟩ (c_Text_add l D ca n ad c1 (k := 5) (by omega) hM1.2.2.2.1 (nI (pt.getD i 0)) _) (cwV 1 hts (gV wm_161 wm_118 wm_119 wm_2 wm_120) rfl rfl rfl (by decide +kernel) ⟨Nat.le_of_ble_eq_true rfl, Nat.le_of_ble_eq_true rfl⟩) (mx_pv (C := RX2) (T := TX2) (N := 2) (ci := 2) hK hP hD hN (by omega : 5 < n) hM1.2.2.2.1.cell rfl) rfl rfl hl.1 rfl (lv_room (Nat.le_of_ble_eq_true rfl)) dX3_make_97 ⟨Nat.zero_le _, Nat.zero_le _⟩) (Nat.le_refl _) hS (fun r3 c2 H locs hw3 hP hS => ?_)
            refine lv_if_eq (tgt := 107) hx hb dX3_make_100 (by decide) (fun hc3 => ?_) (fun hc3 => ?_)
            · skip
              obtain ⟨h1, -, hcE⟩ := hw3.resolve_left (fun h => by rw [h.2.1] at hc3; exact absurd hc3 (by decide))
              rw [hcE] at hP
              rw [if_neg (by omega)] at heq
              refine lv_bipush (v := (-5)) hx hb dX3_make_107 (by decide) ?_
              refine lv_istore_n (lv' := [(3, .int ((-5))), (1, .int (nI i)), (2, .int (nI j)), (0, .ref (ad 0))]) hx hb dX3_make_109 rfl hl (by decide) rfl (fun ls hl => ?_)
              refine lv_iinc (v := nI (i + 1)) (lv' := [(1, .int (nI (i + 1))), (3, .int ((-5))), (2, .int (nI j)), (0, .ref (ad 0))]) hx hb dX3_make_110 hl (k := 1) rfl (nI_1 i) (by decide) rfl (fun ls hl => ?_)
              refine lv_iload_n hx hb dX3_make_113 rfl (lv_at hl 1 rfl) ?_
              refine lv_if_eq (tgt := 126) hx hb dX3_make_114 (by decide) (fun hc4 => ?_) (fun hc4 => ?_)
              · skip
                exact absurd hc4 (by decide)
              · skip
                refine lv_aload_n hx hb dX3_make_117 rfl (lv_at hl 3 rfl) ?_
                refine mx_get (ci := 3) (v := .ref (ad 5)) (C := RX3) (T := TX3) (N := 9) hx hb hts inX3 hown hK hP (by omega : 0 < n) hM1.1 rfl 2 (by decide) (hts _ wm_79) (fun _ h9 => h9) rfl dX3_make_118 ?_
                refine mx_cv (va_runV (As := []) (rest := []) ⟨hx, hb, hml, hown, hts⟩ (c_Text_empty l D ca n ad c1 (k := 5) (by omega) hM1.2.2.2.1 _) (cwV 0 hts (gV wm_133 wm_134 wm_135 wm_2 wm_136) rfl rfl rfl (by decide +kernel) ⟨Nat.le_of_ble_eq_true rfl, Nat.le_of_ble_eq_true rfl⟩) (mx_pv (C := RX2) (T := TX2) (N := 2) (ci := 2) hK hP hD hN (by omega : 5 < n) hM1.2.2.2.1.cell rfl) rfl rfl hl.1 rfl (lv_room (Nat.le_of_ble_eq_true rfl)) dX3_make_121 ⟨Nat.zero_le _, Nat.zero_le _⟩) (Nat.le_refl _) hS (fun c8 H locs hw8 hP hS => ?_)
                obtain ⟨hs8, hT8⟩ := hw8
                have hM8 := hM1.made hs8 hT8
                refine lv_iload_n hx hb dX3_make_124 rfl (lv_at hl 1 rfl) ?_
                exact mx_iret hx hb hr hlocks hP hS (⟨by rw [heq], by rw [heq]; exact hM8.ms, fun j h => (hs8 j (by omega) (by omega)).trans (hs1 j h)⟩) dX3_make_125
            · skip
              obtain ⟨h1, -, hs3, hT3⟩ := hw3.resolve_right (fun h => hc3 h.2.1)
              rw [by8_nI hb8] at hT3
              have hM3 := hM1.made hs3 hT3
              rw [if_pos h1] at heq
              refine lv_iconst (v := 0) hx hb dX3_make_103 (by decide) ?_
              refine lv_goto (tgt := 109) hx hb dX3_make_104 (by decide) ?_
              refine lv_istore_n (lv' := [(3, .int 0), (1, .int (nI i)), (2, .int (nI j)), (0, .ref (ad 0))]) hx hb dX3_make_109 rfl hl (by decide) rfl (fun ls hl => ?_)
              refine lv_iinc (v := nI (i + 1)) (lv' := [(1, .int (nI (i + 1))), (3, .int 0), (2, .int (nI j)), (0, .ref (ad 0))]) hx hb dX3_make_110 hl (k := 1) rfl (nI_1 i) (by decide) rfl (fun ls hl => ?_)
              refine lv_iload_n hx hb dX3_make_113 rfl (lv_at hl 1 rfl) ?_
              refine lv_if_eq (tgt := 126) hx hb dX3_make_114 (by decide) (fun hc4 => ?_) (fun hc4 => ?_)
              · skip
                refine lv_iinc (v := nI (j + 1)) (lv' := [(2, .int (nI (j + 1))), (1, .int (nI (i + 1))), (3, .int 0), (0, .ref (ad 0))]) hx hb dX3_make_126 hl (k := 2) rfl (nI_1 j) (by decide) rfl (fun ls hl => ?_)
                refine lv_goto (tgt := 16) hx hb dX3_make_129 (by decide) ?_
                exact ih (i + 1) (j + 1) tk1 _ c2 H locs ls (by omega) (by omega) (by omega) heq ⟨_, _, _, _, _, _, hM3⟩ (fun j h => (hs3 j (by omega) (by omega)).trans (hs1 j h)) hP hS (lv_sub hl [1, 0, 3] rfl)
              · skip
                exact absurd rfl hc4
          · skip
            have hx37 : pt.getD i 0 = 37 := (nI_eq (b := 37) (by omega) (by omega)).mp hc2
            refine lv_aload_n hx hb dX3_make_47 rfl (lv_at hl 2 rfl) ?_
            refine mx_get (ci := 3) (v := .ref (ad 48)) (C := RX3) (T := TX3) (N := 9) hx hb hts inX3 hown hK hP (by omega : 0 < n) hM1.1 rfl 6 (by decide) (hts _ wm_83) (fun _ h9 => h9) rfl dX3_make_48 ?_
            refine lv_aload_n hx hb dX3_make_51 rfl (lv_at hl 2 rfl) ?_
            refine mx_get (ci := 3) (v := .ref (ad 3)) (C := RX3) (T := TX3) (N := 9) hx hb hts inX3 hown hK hP (by omega : 0 < n) hM1.1 rfl 1 (by decide) (hts _ wm_78) (fun _ h9 => h9) rfl dX3_make_52 ?_
            refine lv_iload_n hx hb dX3_make_55 rfl (lv_at hl 0 rfl) ?_
            refine lv_iconst (v := 1) hx hb dX3_make_56 (by decide) ?_
            refine lv_iadd hx hb dX3_make_57 ?_
            refine mx_i (nI (i + 1)) (nI_1 i) ?_
            refine mx_ci (va_runV (As := [.ref (ad 3), .int (nI (i + 1))]) (rest := []) ⟨hx, hb, hml, hown, hts⟩ (c_Place_read l D ca n ad c1 (k := 48) (by omega) hM1.2.2.2.2.2.2.1 (k2 := 3) (by omega) hM1.2.2.1 (by decide) (nI (i + 1)) (i + 1) rfl (by omega) _) (cwV 2 hts (gV wm_180 wm_181 wm_182 wm_3 wm_183) rfl rfl rfl (by decide +kernel) ⟨Nat.le_of_ble_eq_true rfl, Nat.le_of_ble_eq_true rfl⟩) (mx_pv (C := RX1) (T := TX1) (N := 7) (ci := 1) hK hP hD hN (by omega : 48 < n) hM1.2.2.2.2.2.2.1 rfl) rfl rfl hl.1 rfl (lv_room (Nat.le_of_ble_eq_true rfl)) dX3_make_58 ⟨Nat.zero_le _, Nat.zero_le _⟩) (Nat.le_refl _) hS (fun r3 c2 H locs hw3 hP hS => ?_)
            obtain ⟨i2, hi2, hd2, hL2, hs2, hw3⟩ := hw3
            have hM2 := hM1.plc hs2 hL2
            have h2i : i + 1 ≤ i2 := by
              have h9 := congrArg List.length hd2
              have h8 := pPlace_le (pt.drop (i + 1))
              rw [List.length_drop] at h9 h8
              omega
            refine lv_if_eq (tgt := 71) hx hb dX3_make_61 (by decide) (fun hc3 => ?_) (fun hc3 => ?_)
            · skip
              have hbad : (pPlace (pt.drop (i + 1))).2.2 = [] ∨ ∃ kd s', (pPlace (pt.drop (i + 1))).2.2 = kd :: s' ∧ isKd kd = false := by
                rcases hw3 with ⟨h1, h2, h3⟩ | ⟨h1, h2⟩
                · rw [h3] at hc3; exact absurd hc3 (by decide)
                · rw [← hd2]
                  rcases Nat.lt_or_ge i2 pt.length with h9 | h9
                  · exact Or.inr ⟨_, _, dr_cons h9, by cases hk : isKd (pt.getD i2 0); rfl; exact absurd ⟨h9, hk⟩ h1⟩
                  · exact Or.inl (dr_nil h9)
              rw [mkF_bad hx37 hbad] at heq
              refine lv_bipush (v := (-2)) hx hb dX3_make_71 (by decide) ?_
              refine lv_istore_n (lv' := [(3, .int ((-2))), (1, .int (nI i)), (2, .int (nI j)), (0, .ref (ad 0))]) hx hb dX3_make_73 rfl hl (by decide) rfl (fun ls hl => ?_)
              refine lv_aload_n hx hb dX3_make_74 rfl (lv_at hl 3 rfl) ?_
              refine mx_get (ci := 3) (v := .ref (ad 48)) (C := RX3) (T := TX3) (N := 9) hx hb hts inX3 hown hK hP (by omega : 0 < n) hM2.1 rfl 6 (by decide) (hts _ wm_83) (fun _ h9 => h9) rfl dX3_make_75 ?_
              refine mx_getN (ci := 1) (v := .int (nI (i2 + 1))) (C := RX1) (T := TX1) (N := 7) hx hb hts inX1 hown hK hP (by omega : 48 < n) hM2.2.2.2.2.2.2.1 rfl 6 (by decide) (hN.1 _ nn_7) (fun _ h9 => h9) rfl dX3_make_78 ?_
              refine lv_istore_n (lv' := [(1, .int (nI (i2 + 1))), (3, .int ((-2))), (2, .int (nI j)), (0, .ref (ad 0))]) hx hb dX3_make_81 rfl hl (by decide) rfl (fun ls hl => ?_)
              refine lv_goto (tgt := 113) hx hb dX3_make_82 (by decide) ?_
              refine lv_iload_n hx hb dX3_make_113 rfl (lv_at hl 1 rfl) ?_
              refine lv_if_eq (tgt := 126) hx hb dX3_make_114 (by decide) (fun hc4 => ?_) (fun hc4 => ?_)
              · skip
                exact absurd hc4 (by decide)
              · skip
                refine lv_aload_n hx hb dX3_make_117 rfl (lv_at hl 3 rfl) ?_
                refine mx_get (ci := 3) (v := .ref (ad 5)) (C := RX3) (T := TX3) (N := 9) hx hb hts inX3 hown hK hP (by omega : 0 < n) hM2.1 rfl 2 (by decide) (hts _ wm_79) (fun _ h9 => h9) rfl dX3_make_118 ?_
                refine mx_cv (va_runV (As := []) (rest := []) ⟨hx, hb, hml, hown, hts⟩ (c_Text_empty l D ca n ad c2 (k := 5) (by omega) hM2.2.2.2.1 _) (cwV 0 hts (gV wm_133 wm_134 wm_135 wm_2 wm_136) rfl rfl rfl (by decide +kernel) ⟨Nat.le_of_ble_eq_true rfl, Nat.le_of_ble_eq_true rfl⟩) (mx_pv (C := RX2) (T := TX2) (N := 2) (ci := 2) hK hP hD hN (by omega : 5 < n) hM2.2.2.2.1.cell rfl) rfl rfl hl.1 rfl (lv_room (Nat.le_of_ble_eq_true rfl)) dX3_make_121 ⟨Nat.zero_le _, Nat.zero_le _⟩) (Nat.le_refl _) hS (fun c8 H locs hw8 hP hS => ?_)
                obtain ⟨hs8, hT8⟩ := hw8
                have hM8 := hM2.made hs8 hT8
                refine lv_iload_n hx hb dX3_make_124 rfl (lv_at hl 1 rfl) ?_
                exact mx_iret hx hb hr hlocks hP hS (⟨by rw [heq], by rw [heq]; exact hM8.ms, fun j h => (hs8 j (by omega) (by omega)).trans ((hs2 j (by omega)).trans (hs1 j h))⟩) dX3_make_125
            · skip
              obtain ⟨h2lt, hkd, -⟩ := hw3.resolve_right (fun h => hc3 h.2)
              have hat : tAt pt i2 = nI (pt.getD i2 0) := if_pos h2lt
              rw [mkF_plc hx37 (by rw [← hd2]; exact dr_cons h2lt) hkd] at heq
              refine lv_aload_n hx hb dX3_make_64 rfl (lv_at hl 2 rfl) ?_
              refine mx_ci (va_runV (As := []) (rest := []) ⟨hx, hb, hml, hown, hts⟩ (c_fillPlace l D ca n ad c2 hn hM2 (pWid_lt _ _ (by omega)) _) (cwV 0 hts (gV wm_207 wm_209 ws_5 wm_1 wm_210) rfl rfl rfl (by decide +kernel) ⟨Nat.le_of_ble_eq_true rfl, Nat.le_of_ble_eq_true rfl⟩) (mx_pv (C := RX3) (T := TX3) (N := 9) (ci := 3) hK hP hD hN (by omega : 0 < n) hM2.1 rfl) rfl rfl hl.1 rfl (lv_room (Nat.le_of_ble_eq_true rfl)) dX3_make_65 ⟨Nat.zero_le _, Nat.zero_le _⟩) (Nat.le_refl _) hS (fun r4 c3 H locs hw4 hP hS => ?_)
              obtain ⟨⟨tk4, v4, dg4, md4, hM4, hw4⟩, hs4⟩ := hw4
              rw [hat] at hw4
              refine lv_goto (tgt := 73) hx hb dX3_make_68 (by decide) ?_
              refine lv_istore_n (lv' := [(3, .int r4), (1, .int (nI i)), (2, .int (nI j)), (0, .ref (ad 0))]) hx hb dX3_make_73 rfl hl (by decide) rfl (fun ls hl => ?_)
              refine lv_aload_n hx hb dX3_make_74 rfl (lv_at hl 3 rfl) ?_
              refine mx_get (ci := 3) (v := .ref (ad 48)) (C := RX3) (T := TX3) (N := 9) hx hb hts inX3 hown hK hP (by omega : 0 < n) hM4.1 rfl 6 (by decide) (hts _ wm_83) (fun _ h9 => h9) rfl dX3_make_75 ?_
              refine mx_getN (ci := 1) (v := .int (nI (i2 + 1))) (C := RX1) (T := TX1) (N := 7) hx hb hts inX1 hown hK hP (by omega : 48 < n) hM4.2.2.2.2.2.2.1 rfl 6 (by decide) (hN.1 _ nn_7) (fun _ h9 => h9) rfl dX3_make_78 ?_
              refine lv_istore_n (lv' := [(1, .int (nI (i2 + 1))), (3, .int r4), (2, .int (nI j)), (0, .ref (ad 0))]) hx hb dX3_make_81 rfl hl (by decide) rfl (fun ls hl => ?_)
              refine lv_goto (tgt := 113) hx hb dX3_make_82 (by decide) ?_
              refine lv_iload_n hx hb dX3_make_113 rfl (lv_at hl 1 rfl) ?_
              refine lv_if_eq (tgt := 126) hx hb dX3_make_114 (by decide) (fun hc5 => ?_) (fun hc5 => ?_)
              · skip
                obtain ⟨e1, e2, -, rfl, rfl⟩ := hw4.resolve_right (fun h => by
                  rcases h with ⟨-, -, h⟩ | ⟨h1, h⟩
                  · rw [h] at hc5; exact absurd hc5 (by decide)
                  · exact h1 (by rw [← h]; exact hc5))
                rw [if_pos e1, if_pos e2] at heq
                refine lv_iinc (v := nI (j + 1)) (lv' := [(2, .int (nI (j + 1))), (1, .int (nI (i2 + 1))), (3, .int r4), (0, .ref (ad 0))]) hx hb dX3_make_126 hl (k := 2) rfl (nI_1 j) (by decide) rfl (fun ls hl => ?_)
                refine lv_goto (tgt := 16) hx hb dX3_make_129 (by decide) ?_
                exact ih (i2 + 1) (j + 1) _ _ c3 H locs ls (by omega) (by omega) (by omega) heq ⟨_, _, _, _, _, _, hM4⟩ (fun j h => (hs4 j h).trans ((hs2 j (by omega)).trans (hs1 j h))) hP hS (lv_sub hl [1, 0, 3] rfl)
              · skip
                have hfl : RR = (r4, []) := by
                  rcases hw4 with ⟨-, -, h, -⟩ | ⟨e1, e2, h⟩ | ⟨e1, h⟩
                  · exact absurd h hc5
                  · rw [heq, if_pos e1, if_neg e2, h]
                  · rw [heq, if_neg e1, h]
                refine lv_aload_n hx hb dX3_make_117 rfl (lv_at hl 3 rfl) ?_
                refine mx_get (ci := 3) (v := .ref (ad 5)) (C := RX3) (T := TX3) (N := 9) hx hb hts inX3 hown hK hP (by omega : 0 < n) hM4.1 rfl 2 (by decide) (hts _ wm_79) (fun _ h9 => h9) rfl dX3_make_118 ?_
                refine mx_cv (va_runV (As := []) (rest := []) ⟨hx, hb, hml, hown, hts⟩ (c_Text_empty l D ca n ad c3 (k := 5) (by omega) hM4.2.2.2.1 _) (cwV 0 hts (gV wm_133 wm_134 wm_135 wm_2 wm_136) rfl rfl rfl (by decide +kernel) ⟨Nat.le_of_ble_eq_true rfl, Nat.le_of_ble_eq_true rfl⟩) (mx_pv (C := RX2) (T := TX2) (N := 2) (ci := 2) hK hP hD hN (by omega : 5 < n) hM4.2.2.2.1.cell rfl) rfl rfl hl.1 rfl (lv_room (Nat.le_of_ble_eq_true rfl)) dX3_make_121 ⟨Nat.zero_le _, Nat.zero_le _⟩) (Nat.le_refl _) hS (fun c8 H locs hw8 hP hS => ?_)
                obtain ⟨hs8, hT8⟩ := hw8
                have hM8 := hM4.made hs8 hT8
                refine lv_iload_n hx hb dX3_make_124 rfl (lv_at hl 1 rfl) ?_
                exact mx_iret hx hb hr hlocks hP hS (⟨by rw [hfl], by rw [hfl]; exact hM8.ms, fun j h => (hs8 j (by omega) (by omega)).trans ((hs4 j h).trans ((hs2 j (by omega)).trans (hs1 j h)))⟩) dX3_make_125
  refine lv_iconst (v := 0) hx hb dX3_make_12 (by decide) ?_
  refine lv_istore_n (lv' := [(1, .int 0), (0, .ref (ad 0))]) hx hb dX3_make_13 rfl hl (by decide) rfl (fun ls hl => ?_)
  refine lv_iconst (v := 0) hx hb dX3_make_14 (by decide) ?_
  refine lv_istore_n (lv' := [(2, .int 0), (1, .int 0), (0, .ref (ad 0))]) hx hb dX3_make_15 rfl hl (by decide) rfl (fun ls hl => ?_)
  exact loop (pt.length + 1) 0 0 0 [] a2 _ _ ls (Nat.zero_le _) (Nat.le_refl _) (by omega) hRR.symm ⟨_, _, _, _, _, _, hMb⟩ (fun j h => (hsa2 j (by omega)).trans (hsa j (by omega) (by omega))) hP hS (by have h9 := (lv_sub hl [1, 0, 2] rfl); rw [nI_0]; exact h9)
end
section
set_option maxHeartbeats 4000000 in
set_option maxRecDepth 100000 in
/-- Place() -/
theorem c_Place_init (l : Launch) (D : va_G) (ca : Nat → ClassId) (n : Nat) (ad : Nat → Nat) (c : Nat → va_E) {k : Nat} (hk : k < n) (hL : tPl c k (false, false, false, false) 0 0 0) : mVoid l yX1_init wsX1_init ({ frames := 1, cells := 0, slots := 0, locals := 12 }) [.ref (ad k)] D (tTY ca) n ad c (fun c' => tPl c' k (false, false, false, false) 0 (-1) 0 ∧ ∀ j, j ≠ k → c' j = c j) := by
  intro sz
  refine Met.ofW (cc := cX1_init) (maxL := 1) (ret := none) (by decide) rfl ?_
  intro pg9 ev9 s m args below meth cd s₁ B hml hv
  obtain ⟨rfl, hsz, hP, hK, hD0, hN⟩ := hv
  have hx := B.exec
  have hb := B.bytes
  have hr := B.returns
  have hts := fun (w : Cond) (h : w ∈ WSa) => atoms_spec (ws := wsX1_init) B.pre w (List.mem_cons_of_mem _ h)
  have hown : s.vm.findClass RX1 = some m.cls := findClass_of_methodNamed B.named
  have hlocks := B.notSynchronized
  subst hsz
  have hD : ∀ c, va_D (fun _ => True) (mw n ad c) := fun c' => mw_D hD0 c'
  have hS : va_S (mA n ad s.heap.size) s.heap s.heap [] := va_S.rf
  have hl := lv_entry ([.ref (ad k)]) (n := 1) (Nat.le_of_ble_eq_true rfl)
  rw [lg_entry_eq]
  generalize (lg_sl ([.ref (ad k)]) ++ List.replicate (1 - (lg_sl ([.ref (ad k)])).length) Slot.unset).toArray = ls at hl ⊢
  have hl : lv_has ls 1 [(0, .ref (ad k))] := hl
  refine lv_aload_n hx hb dX1_init_0 rfl (lv_at hl 0 rfl) ?_
  refine W.objInit hx hb hown (hts _ wm_38) (hts _ wm_13) (hts _ wm_14) rfl (by rw [hml]; exact hl.1) rfl dX1_init_1 (Nat.le_of_ble_eq_true rfl) (Nat.le_of_ble_eq_true rfl) ?_
  refine W.eq (g2 := F0 m 4 ls []) rfl ?_
  refine lv_aload_n hx hb dX1_init_4 rfl (lv_at hl 0 rfl) ?_
  refine lv_iconst (v := (-1)) hx hb dX1_init_5 (by decide) ?_
  refine mx_put (ci := 1) (v := .int ((-1))) (ty := .int) (C := RX1) (T := TX1) (N := 7) hx hb hts inX1 tyX1 tyX1_ok nmX1 hown hK hP hD hS hk hL rfl 5 (by decide) (hts _ wm_47) (fun _ h9 => h9) rfl (by decide +kernel) rfl rfl (Nat.le_of_ble_eq_true rfl) dX1_init_6 (fun H locs hP hS => ?_)
  obtain ⟨c1, ec1⟩ : ∃ z : Nat → va_E, z = va_up c k (.inr (1, [.int (bI false), .int (bI false), .int (bI false), .int (bI false), .int 0, .int ((-1)), .int 0])) := ⟨_, rfl⟩
  have hP : va_P D vwCl (mw n ad c1) H := by rw [ec1]; exact hP
  have hsc1 : ∀ j, j ≠ k → c1 j = c j := fun j h => by rw [ec1]; exact va_up_ne _ _ h
  have hcc1 : c1 k = .inr (1, [.int (bI false), .int (bI false), .int (bI false), .int (bI false), .int 0, .int ((-1)), .int 0]) := by rw [ec1]; exact va_up_self _ _ _
  exact mx_vret hx hb hr hlocks hP hS (⟨hcc1, hsc1⟩) dX1_init_9
set_option maxHeartbeats 4000000 in
set_option maxRecDepth 100000 in
/-- Numeral() -/
theorem c_Num_init (l : Launch) (D : va_G) (ca : Nat → ClassId) (n : Nat) (ad : Nat → Nat) (c : Nat → va_E) {k : Nat} {v : Int64} (hk : k < n) (hV : tNm c k v) : mVoid l yX0_init wsX0_init ({ frames := 1, cells := 0, slots := 0, locals := 12 }) [.ref (ad k)] D (tTY ca) n ad c (fun c' => tNm c' k 0 ∧ ∀ j, j ≠ k → c' j = c j) := by
  intro sz
  refine Met.ofW (cc := cX0_init) (maxL := 1) (ret := none) (by decide) rfl ?_
  intro pg9 ev9 s m args below meth cd s₁ B hml hv
  obtain ⟨rfl, hsz, hP, hK, hD0, hN⟩ := hv
  have hx := B.exec
  have hb := B.bytes
  have hr := B.returns
  have hts := fun (w : Cond) (h : w ∈ WSa) => atoms_spec (ws := wsX0_init) B.pre w (List.mem_cons_of_mem _ h)
  have hown : s.vm.findClass RX0 = some m.cls := findClass_of_methodNamed B.named
  have hlocks := B.notSynchronized
  subst hsz
  have hD : ∀ c, va_D (fun _ => True) (mw n ad c) := fun c' => mw_D hD0 c'
  have hS : va_S (mA n ad s.heap.size) s.heap s.heap [] := va_S.rf
  have hl := lv_entry ([.ref (ad k)]) (n := 1) (Nat.le_of_ble_eq_true rfl)
  rw [lg_entry_eq]
  generalize (lg_sl ([.ref (ad k)]) ++ List.replicate (1 - (lg_sl ([.ref (ad k)])).length) Slot.unset).toArray = ls at hl ⊢
  have hl : lv_has ls 1 [(0, .ref (ad k))] := hl
  refine lv_aload_n hx hb dX0_init_0 rfl (lv_at hl 0 rfl) ?_
  refine W.objInit hx hb hown (hts _ wm_71) (hts _ wm_13) (hts _ wm_14) rfl (by rw [hml]; exact hl.1) rfl dX0_init_1 (Nat.le_of_ble_eq_true rfl) (Nat.le_of_ble_eq_true rfl) ?_
  refine W.eq (g2 := F0 m 4 ls []) rfl ?_
  refine lv_aload_n hx hb dX0_init_4 rfl (lv_at hl 0 rfl) ?_
  refine lv_lconst (v := 0) hx hb dX0_init_5 (by decide) ?_
  refine mx_put (ci := 0) (v := .long 0) (ty := .long) (C := RX0) (T := TX0) (N := 1) hx hb hts inX0 tyX0 tyX0_ok nmX0 hown hK hP hD hS hk hV rfl 0 (by decide) (hts _ wm_72) (fun _ h9 => h9) rfl (by decide +kernel) rfl rfl (Nat.le_of_ble_eq_true rfl) dX0_init_6 (fun H locs hP hS => ?_)
  obtain ⟨c1, ec1⟩ : ∃ z : Nat → va_E, z = va_up c k (.inr (0, [.long 0])) := ⟨_, rfl⟩
  have hP : va_P D vwCl (mw n ad c1) H := by rw [ec1]; exact hP
  have hsc1 : ∀ j, j ≠ k → c1 j = c j := fun j h => by rw [ec1]; exact va_up_ne _ _ h
  have hcc1 : c1 k = .inr (0, [.long 0]) := by rw [ec1]; exact va_up_self _ _ _
  exact mx_vret hx hb hr hlocks hP hS (⟨hcc1, hsc1⟩) dX0_init_9
set_option maxHeartbeats 4000000 in
set_option maxRecDepth 100000 in
/-- Text(x) -/
theorem c_Text_init (l : Launch) (D : va_G) (ca : Nat → ClassId) (n : Nat) (ad : Nat → Nat) (c : Nat → va_E) {k cap : Nat} (hk : k + 1 = n) (h0 : c k = .inr (tCT, [.null, .int 0])) (x : Int32) (hx0 : x = nI cap) (hcap : cap < 1048576) : mNew l yX2_init wsX2_init ({ frames := 1, cells := 1, slots := cap, locals := 12 }) [.ref (ad k), .int x] D (tTY ca) n ad c (n + 1) (fun ad1 c1 => (∀ j, j < n → ad1 j = ad j) ∧ (∀ j, j < k → c1 j = c j) ∧ tTx ca ad1 c1 k cap []) 1 cap := by
  intro sz
  refine Met.ofW (cc := cX2_init) (maxL := 2) (ret := none) (by decide) rfl ?_
  intro pg9 ev9 s m args below meth cd s₁ B hml hv
  obtain ⟨rfl, hsz, hP, hK, hD0, hN⟩ := hv
  have hx := B.exec
  have hb := B.bytes
  have hr := B.returns
  have hts := fun (w : Cond) (h : w ∈ WSa) => atoms_spec (ws := wsX2_init) B.pre w (List.mem_cons_of_mem _ h)
  have hown : s.vm.findClass RX2 = some m.cls := findClass_of_methodNamed B.named
  have hlocks := B.notSynchronized
  subst hsz
  have hD : ∀ c, va_D (fun _ => True) (mw n ad c) := fun c' => mw_D hD0 c'
  have hS : va_S (mA n ad s.heap.size) s.heap s.heap [] := va_S.rf
  have hl := lv_entry ([.ref (ad k), .int x]) (n := 2) (Nat.le_of_ble_eq_true rfl)
  rw [lg_entry_eq]
  generalize (lg_sl ([.ref (ad k), .int x]) ++ List.replicate (2 - (lg_sl ([.ref (ad k), .int x])).length) Slot.unset).toArray = ls at hl ⊢
  have hin : meth.name = "<init>" := (name_of_methodNamed B.named B.method).1
  have hA : ∀ q, s.heap.size ≤ q → mA n ad s.heap.size q := fun q h => Or.inr h
  have hD : va_D (mA n ad s.heap.size) (mw n ad c) := mw_DA hD0 c
  have hl : lv_has ls 2 [(0, .ref (ad k)), (1, .int x)] := hl
  refine lv_aload_n hx hb dX2_init_0 rfl (lv_at hl 0 rfl) ?_
  refine W.objInit hx hb hown (hts _ wm_20) (hts _ wm_13) (hts _ wm_14) rfl (by rw [hml]; exact hl.1) rfl dX2_init_1 (Nat.le_of_ble_eq_true rfl) (Nat.le_of_ble_eq_true rfl) ?_
  refine W.eq (g2 := F0 m 4 ls []) rfl ?_
  refine lv_aload_n hx hb dX2_init_4 rfl (lv_at hl 0 rfl) ?_
  refine lv_iload_n hx hb dX2_init_5 rfl (lv_at hl 1 rfl) ?_
  refine lv_if_ge (tgt := 13) hx hb dX2_init_6 (by decide) (fun hc => ?_) (fun hc => ?_)
  · skip
    refine lv_iload_n hx hb dX2_init_13 rfl (lv_at hl 1 rfl) ?_
    refine mg_newi (atype := .int) hx hb (hts _ wm_31) rfl hK hP hD hS hA 0 rfl (N' := cap) (by rw [hx0]; exact nI_pos (by omega)) (by rw [hx0]; exact nI_clamp (by omega)) (by show cap * 4 ≤ _; omega) (Nat.le_of_ble_eq_true rfl) (by show 0 + cap ≤ cap; omega) dX2_init_14 (fun ad1 c1 H ha1 hc1 hcn hP hD hS => ?_)
    refine mg_putF (ci := 2) (v := .ref (ad1 n)) (ty := (.array .int)) (C := RX2) (T := TX2) (N := 2) hx hb hts inX2 tyX2 tyX2_ok nmX2 hown hK hP hD hS (by omega : k < n + 1) (ha1 k (by omega)) ((hc1 k (by omega)).trans h0) rfl 0 (by decide) (hts _ wm_21) (fun _ h9 => h9) rfl hin rfl (by decide +kernel) rfl rfl (Nat.le_of_ble_eq_true rfl) dX2_init_16 (fun c2 H locs hsc2 hcc2 hP hD hS => ?_)
    have hcc2 : c2 k = .inr (2, [.ref (ad1 n), .int 0]) := hcc2
    refine lv_aload_n hx hb dX2_init_19 rfl (lv_at hl 0 rfl) ?_
    refine lv_iconst (v := 0) hx hb dX2_init_20 (by decide) ?_
    refine mg_put (ci := 2) (v := .int 0) (ty := .int) (C := RX2) (T := TX2) (N := 2) hx hb hts inX2 tyX2 tyX2_ok nmX2 hown hK hP hD hS (by omega : k < n + 1) (ha1 k (by omega)) hcc2 rfl 1 (by decide) (hts _ wm_22) (fun _ h9 => h9) rfl (by decide +kernel) rfl rfl (Nat.le_of_ble_eq_true rfl) dX2_init_21 (fun c3 H locs hsc3 hcc3 hP hD hS => ?_)
    have hcc3 : c3 k = .inr (2, [.ref (ad1 n), .int 0]) := hcc3
    refine W.widen (k := 1) (n := cap) (by omega) (by omega) ?_
    have hkn : n = k + 1 := hk.symm
    have hpost : (∀ j, j < n → ad1 j = ad j) ∧ (∀ j, j < k → c3 j = c j) ∧ tTx ca ad1 c3 k cap [] := by
      refine ⟨ha1, fun j hj => (hsc3 j (by omega)).trans ((hsc2 j (by omega)).trans (hc1 j (by omega))), Nat.zero_le _, hcap, by simp, ?_, fun _ => 0, ?_, by simp⟩
      · rw [hcc3, hkn]; rfl
      · rw [← hkn, hsc3 _ (by omega), hsc2 _ (by omega)]; exact hcn
    exact mg_vret (post := fun ad1 c1 => (∀ j, j < n → ad1 j = ad j) ∧ (∀ j, j < k → c1 j = c j) ∧ tTx ca ad1 c1 k cap []) hx hb hr hlocks hP hD hS hpost dX2_init_24
  · skip
    exact absurd (by rw [hx0]; exact nI_pos' (by omega)) hc
set_option maxHeartbeats 4000000 in
set_option maxRecDepth 100000 in
/-- FormatMill() -/
theorem c_Mill_init (l : Launch) (D : va_G) (ca : Nat → ClassId) (n : Nat) (ad : Nat → Nat) (c : Nat → va_E) (hn1 : 1 = n) (h0 : c 0 = .inr (tCM, [.null, .null, .null, .null, .int 0, .int 0, .null, .null, .null])) : mNew l yX3_init wsX3_init ({ frames := 2, cells := 51, slots := 2740, locals := 33 }) [.ref (ad 0)] D (tTY ca) n ad c (52) (fun ad1 c1 => ad1 0 = ad 0 ∧ tMF ca ad1 c1 [] [] [] (fun _ => []) 0 0 (false, false, false, false) 0 (-1) 0 0 []) 51 2740 := by
  intro sz
  refine Met.ofW (cc := cX3_init) (maxL := 2) (ret := none) (by decide) rfl ?_
  intro pg9 ev9 s m args below meth cd s₁ B hml hv
  obtain ⟨rfl, hsz, hP, hK, hD0, hN⟩ := hv
  have hx := B.exec
  have hb := B.bytes
  have hr := B.returns
  have hts := fun (w : Cond) (h : w ∈ WSa) => atoms_spec (ws := wsX3_init) B.pre w (List.mem_cons_of_mem _ h)
  have hown : s.vm.findClass RX3 = some m.cls := findClass_of_methodNamed B.named
  have hlocks := B.notSynchronized
  subst hsz
  have hD : ∀ c, va_D (fun _ => True) (mw n ad c) := fun c' => mw_D hD0 c'
  have hS : va_S (mA n ad s.heap.size) s.heap s.heap [] := va_S.rf
  have hl := lv_entry ([.ref (ad 0)]) (n := 2) (Nat.le_of_ble_eq_true rfl)
  rw [lg_entry_eq]
  generalize (lg_sl ([.ref (ad 0)]) ++ List.replicate (2 - (lg_sl ([.ref (ad 0)])).length) Slot.unset).toArray = ls at hl ⊢
  have hin : meth.name = "<init>" := (name_of_methodNamed B.named B.method).1
  have hA : ∀ q, s.heap.size ≤ q → mA n ad s.heap.size q := fun q h => Or.inr h
  have hD : va_D (mA n ad s.heap.size) (mw n ad c) := mw_DA hD0 c
  have hl : lv_has ls 2 [(0, .ref (ad 0))] := hl
  subst hn1
  refine lv_aload_n hx hb dX3_init_0 rfl (lv_at hl 0 rfl) ?_
  refine W.objInit hx hb hown (hts _ wm_12) (hts _ wm_13) (hts _ wm_14) rfl (by rw [hml]; exact hl.1) rfl dX3_init_1 (Nat.le_of_ble_eq_true rfl) (Nat.le_of_ble_eq_true rfl) ?_
  refine W.eq (g2 := F0 m 4 ls []) rfl ?_
  refine lv_aload_n hx hb dX3_init_4 rfl (lv_at hl 0 rfl) ?_
  refine mg_new (n := 1) (ci := 2) (fs := [.null, .int 0]) (C := RX2) (T := TX2) (N := 2) hx hb hts inX2 tyX2 tyX2_ok hown (hts _ wm_15) (hts _ wm_16) (hts _ wm_2) hK hP hD hS hA rfl (fun j hj => by (match j, hj with | 0, _ => rfl | 1, _ => rfl)) (Nat.le_of_ble_eq_true rfl) (Nat.le_of_ble_eq_true rfl) dX3_init_5 (fun au1 cu1 H hau1 hcu1 hnu1 hP hD hS => ?_)
  have hmu1 : cu1 0 = .inr (3, [.null, .null, .null, .null, .int 0, .int 0, .null, .null, .null]) := ((hcu1 0 (by omega)).trans h0)
  have ha0_1 : au1 0 = ad 0 := (hau1 (0) (by omega)).trans (rfl)
  refine lv_dup hx hb dX3_init_8 rfl ?_
  refine lv_sipush (v := 400) hx hb dX3_init_9 (by decide) ?_
  refine mg_ci (As := [.int 400]) (rest := [.ref (au1 1), .ref (ad 0)]) ⟨hx, hb, hml, hown, hts⟩ (c_Text_init l D ca (2) au1 cu1 (k := 1) (cap := 400) (by omega) hnu1 400 rfl (by decide)) (cwI 1 hts (gW wm_19) rfl rfl rfl (hts _ wm_2) (hts _ wm_17) (hts _ wm_18) rfl (by decide +kernel) ⟨Nat.le_of_ble_eq_true rfl, Nat.le_of_ble_eq_true rfl⟩) hK hP hD hN hS hA rfl hl.1 rfl (lv_room (Nat.le_of_ble_eq_true rfl)) dX3_init_12 (⟨by exact Nat.le_of_ble_eq_true rfl, by exact Nat.le_of_ble_eq_true rfl⟩) (fun au2 cu2 H locs hwu2 hP hD hS => ?_)
  obtain ⟨hau2, hcu2, htu2⟩ := hwu2
  have hmu2 : cu2 0 = .inr (3, [.null, .null, .null, .null, .int 0, .int 0, .null, .null, .null]) := (hcu2 0 (by omega)).trans hmu1
  have ha0_2 : au2 0 = ad 0 := (hau2 (0) (by omega)).trans (ha0_1)
  have hk1 : au2 1 = au1 1 := hau2 1 (by omega)
  refine mg_putF (ci := 3) (v := .ref (au1 1)) (ty := (.object "FormatMill$Text")) (C := RX3) (T := TX3) (N := 9) hx hb hts inX3 tyX3 tyX3_ok nmX3 hown hK hP hD hS (by omega : 0 < 3) ha0_2 hmu2 rfl 0 (by decide) (hts _ wm_77) (fun _ h9 => h9) rfl hin rfl (by decide +kernel) rfl rfl (Nat.le_of_ble_eq_true rfl) dX3_init_15 (fun cu3 H locs hscu3 hccu3 hP hD hS => ?_)
  have hccu3 : cu3 0 = .inr (3, [.ref (au1 1), .null, .null, .null, .int 0, .int 0, .null, .null, .null]) := hccu3
  have t1_3 : tTx ca au2 cu3 1 400 [] := htu2.mv rfl (hscu3 (1) (by omega)) (hscu3 (1 + 1) (by omega))
  have e1_3 : au2 1 = au1 1 := hk1
  refine lv_aload_n hx hb dX3_init_18 rfl (lv_at hl 0 rfl) ?_
  refine mg_new (n := 3) (ci := 2) (fs := [.null, .int 0]) (C := RX2) (T := TX2) (N := 2) hx hb hts inX2 tyX2 tyX2_ok hown (hts _ wm_15) (hts _ wm_16) (hts _ wm_2) hK hP hD hS hA rfl (fun j hj => by (match j, hj with | 0, _ => rfl | 1, _ => rfl)) (Nat.le_of_ble_eq_true rfl) (Nat.le_of_ble_eq_true rfl) dX3_init_19 (fun au4 cu4 H hau4 hcu4 hnu4 hP hD hS => ?_)
  have hmu4 : cu4 0 = .inr (3, [.ref (au1 1), .null, .null, .null, .int 0, .int 0, .null, .null, .null]) := ((hcu4 0 (by omega)).trans hccu3)
  have ha0_4 : au4 0 = ad 0 := (hau4 (0) (by omega)).trans (ha0_2)
  have t1_4 : tTx ca au4 cu4 1 400 [] := t1_3.mv (hau4 (1 + 1) (by omega)) (hcu4 (1) (by omega)) (hcu4 (1 + 1) (by omega))
  have e1_4 : au4 1 = au1 1 := (hau4 (1) (by omega)).trans e1_3
  refine lv_dup hx hb dX3_init_22 rfl ?_
  refine lv_sipush (v := 400) hx hb dX3_init_23 (by decide) ?_
  refine mg_ci (As := [.int 400]) (rest := [.ref (au4 3), .ref (ad 0)]) ⟨hx, hb, hml, hown, hts⟩ (c_Text_init l D ca (4) au4 cu4 (k := 3) (cap := 400) (by omega) hnu4 400 rfl (by decide)) (cwI 1 hts (gW wm_19) rfl rfl rfl (hts _ wm_2) (hts _ wm_17) (hts _ wm_18) rfl (by decide +kernel) ⟨Nat.le_of_ble_eq_true rfl, Nat.le_of_ble_eq_true rfl⟩) hK hP hD hN hS hA rfl hl.1 rfl (lv_room (Nat.le_of_ble_eq_true rfl)) dX3_init_26 (⟨by exact Nat.le_of_ble_eq_true rfl, by exact Nat.le_of_ble_eq_true rfl⟩) (fun au5 cu5 H locs hwu5 hP hD hS => ?_)
  obtain ⟨hau5, hcu5, htu5⟩ := hwu5
  have hmu5 : cu5 0 = .inr (3, [.ref (au1 1), .null, .null, .null, .int 0, .int 0, .null, .null, .null]) := (hcu5 0 (by omega)).trans hmu4
  have ha0_5 : au5 0 = ad 0 := (hau5 (0) (by omega)).trans (ha0_4)
  have t1_5 : tTx ca au5 cu5 1 400 [] := t1_4.mv (hau5 (1 + 1) (by omega)) (hcu5 (1) (by omega)) (hcu5 (1 + 1) (by omega))
  have e1_5 : au5 1 = au1 1 := (hau5 (1) (by omega)).trans e1_4
  have hk3 : au5 3 = au4 3 := hau5 3 (by omega)
  refine mg_putF (ci := 3) (v := .ref (au4 3)) (ty := (.object "FormatMill$Text")) (C := RX3) (T := TX3) (N := 9) hx hb hts inX3 tyX3 tyX3_ok nmX3 hown hK hP hD hS (by omega : 0 < 5) ha0_5 hmu5 rfl 1 (by decide) (hts _ wm_78) (fun _ h9 => h9) rfl hin rfl (by decide +kernel) rfl rfl (Nat.le_of_ble_eq_true rfl) dX3_init_29 (fun cu6 H locs hscu6 hccu6 hP hD hS => ?_)
  have hccu6 : cu6 0 = .inr (3, [.ref (au1 1), .ref (au4 3), .null, .null, .int 0, .int 0, .null, .null, .null]) := hccu6
  have t1_6 : tTx ca au5 cu6 1 400 [] := t1_5.mv rfl (hscu6 (1) (by omega)) (hscu6 (1 + 1) (by omega))
  have t3_6 : tTx ca au5 cu6 3 400 [] := htu5.mv rfl (hscu6 (3) (by omega)) (hscu6 (3 + 1) (by omega))
  have e1_6 : au5 1 = au1 1 := e1_5
  have e3_6 : au5 3 = au4 3 := hk3
  refine lv_aload_n hx hb dX3_init_32 rfl (lv_at hl 0 rfl) ?_
  refine mg_new (n := 5) (ci := 2) (fs := [.null, .int 0]) (C := RX2) (T := TX2) (N := 2) hx hb hts inX2 tyX2 tyX2_ok hown (hts _ wm_15) (hts _ wm_16) (hts _ wm_2) hK hP hD hS hA rfl (fun j hj => by (match j, hj with | 0, _ => rfl | 1, _ => rfl)) (Nat.le_of_ble_eq_true rfl) (Nat.le_of_ble_eq_true rfl) dX3_init_33 (fun au7 cu7 H hau7 hcu7 hnu7 hP hD hS => ?_)
  have hmu7 : cu7 0 = .inr (3, [.ref (au1 1), .ref (au4 3), .null, .null, .int 0, .int 0, .null, .null, .null]) := ((hcu7 0 (by omega)).trans hccu6)
  have ha0_7 : au7 0 = ad 0 := (hau7 (0) (by omega)).trans (ha0_5)
  have t1_7 : tTx ca au7 cu7 1 400 [] := t1_6.mv (hau7 (1 + 1) (by omega)) (hcu7 (1) (by omega)) (hcu7 (1 + 1) (by omega))
  have t3_7 : tTx ca au7 cu7 3 400 [] := t3_6.mv (hau7 (3 + 1) (by omega)) (hcu7 (3) (by omega)) (hcu7 (3 + 1) (by omega))
  have e1_7 : au7 1 = au1 1 := (hau7 (1) (by omega)).trans e1_6
  have e3_7 : au7 3 = au4 3 := (hau7 (3) (by omega)).trans e3_6
  refine lv_dup hx hb dX3_init_36 rfl ?_
  refine lv_sipush (v := 1024) hx hb dX3_init_37 (by decide) ?_
  refine mg_ci (As := [.int 1024]) (rest := [.ref (au7 5), .ref (ad 0)]) ⟨hx, hb, hml, hown, hts⟩ (c_Text_init l D ca (6) au7 cu7 (k := 5) (cap := 1024) (by omega) hnu7 1024 rfl (by decide)) (cwI 1 hts (gW wm_19) rfl rfl rfl (hts _ wm_2) (hts _ wm_17) (hts _ wm_18) rfl (by decide +kernel) ⟨Nat.le_of_ble_eq_true rfl, Nat.le_of_ble_eq_true rfl⟩) hK hP hD hN hS hA rfl hl.1 rfl (lv_room (Nat.le_of_ble_eq_true rfl)) dX3_init_40 (⟨by exact Nat.le_of_ble_eq_true rfl, by exact Nat.le_of_ble_eq_true rfl⟩) (fun au8 cu8 H locs hwu8 hP hD hS => ?_)
  obtain ⟨hau8, hcu8, htu8⟩ := hwu8
  have hmu8 : cu8 0 = .inr (3, [.ref (au1 1), .ref (au4 3), .null, .null, .int 0, .int 0, .null, .null, .null]) := (hcu8 0 (by omega)).trans hmu7
  have ha0_8 : au8 0 = ad 0 := (hau8 (0) (by omega)).trans (ha0_7)
  have t1_8 : tTx ca au8 cu8 1 400 [] := t1_7.mv (hau8 (1 + 1) (by omega)) (hcu8 (1) (by omega)) (hcu8 (1 + 1) (by omega))
  have t3_8 : tTx ca au8 cu8 3 400 [] := t3_7.mv (hau8 (3 + 1) (by omega)) (hcu8 (3) (by omega)) (hcu8 (3 + 1) (by omega))
  have e1_8 : au8 1 = au1 1 := (hau8 (1) (by omega)).trans e1_7
  have e3_8 : au8 3 = au4 3 := (hau8 (3) (by omega)).trans e3_7
  have hk5 : au8 5 = au7 5 := hau8 5 (by omega)
  refine mg_putF (ci := 3) (v := .ref (au7 5)) (ty := (.object "FormatMill$Text")) (C := RX3) (T := TX3) (N := 9) hx hb hts inX3 tyX3 tyX3_ok nmX3 hown hK hP hD hS (by omega : 0 < 7) ha0_8 hmu8 rfl 2 (by decide) (hts _ wm_79) (fun _ h9 => h9) rfl hin rfl (by decide +kernel) rfl rfl (Nat.le_of_ble_eq_true rfl) dX3_init_43 (fun cu9 H locs hscu9 hccu9 hP hD hS => ?_)
  have hccu9 : cu9 0 = .inr (3, [.ref (au1 1), .ref (au4 3), .ref (au7 5), .null, .int 0, .int 0, .null, .null, .null]) := hccu9
  have t1_9 : tTx ca au8 cu9 1 400 [] := t1_8.mv rfl (hscu9 (1) (by omega)) (hscu9 (1 + 1) (by omega))
  have t3_9 : tTx ca au8 cu9 3 400 [] := t3_8.mv rfl (hscu9 (3) (by omega)) (hscu9 (3 + 1) (by omega))
  have t5_9 : tTx ca au8 cu9 5 1024 [] := htu8.mv rfl (hscu9 (5) (by omega)) (hscu9 (5 + 1) (by omega))
  have e1_9 : au8 1 = au1 1 := e1_8
  have e3_9 : au8 3 = au4 3 := e3_8
  have e5_9 : au8 5 = au7 5 := hk5
  refine lv_aload_n hx hb dX3_init_46 rfl (lv_at hl 0 rfl) ?_
  refine lv_bipush (v := 20) hx hb dX3_init_47 (by decide) ?_
  refine mg_newq (n := 7) (C := RX2) hx hb hown (hts _ wm_15) hN.2 hK hP hD hS hA 1 rfl (N' := 20) (by decide) (by decide) (by decide) (Nat.le_of_ble_eq_true rfl) (Nat.le_of_ble_eq_true rfl) dX3_init_49 (fun au10 cu10 H hau10 hcu10 hnu10 hP hD hS => ?_)
  have hmu10 : cu10 0 = .inr (3, [.ref (au1 1), .ref (au4 3), .ref (au7 5), .null, .int 0, .int 0, .null, .null, .null]) := (hcu10 0 (by omega)).trans hccu9
  have ha0_10 : au10 0 = ad 0 := (hau10 (0) (by omega)).trans (ha0_8)
  have t1_10 : tTx ca au10 cu10 1 400 [] := t1_9.mv (hau10 (1 + 1) (by omega)) (hcu10 (1) (by omega)) (hcu10 (1 + 1) (by omega))
  have t3_10 : tTx ca au10 cu10 3 400 [] := t3_9.mv (hau10 (3 + 1) (by omega)) (hcu10 (3) (by omega)) (hcu10 (3 + 1) (by omega))
  have t5_10 : tTx ca au10 cu10 5 1024 [] := t5_9.mv (hau10 (5 + 1) (by omega)) (hcu10 (5) (by omega)) (hcu10 (5 + 1) (by omega))
  have e1_10 : au10 1 = au1 1 := (hau10 (1) (by omega)).trans e1_9
  have e3_10 : au10 3 = au4 3 := (hau10 (3) (by omega)).trans e3_9
  have e5_10 : au10 5 = au7 5 := (hau10 (5) (by omega)).trans e5_9
  have g7_0 : cu10 7 = .inl (ca 1, 20, .inr (.inr (.inr (.inr (fun _ => none))))) := hnu10
  have hk7 : au10 7 = au10 7 := rfl
  refine mg_putF (ci := 3) (v := .ref (au10 7)) (ty := (.array (.object "FormatMill$Text"))) (C := RX3) (T := TX3) (N := 9) hx hb hts inX3 tyX3 tyX3_ok nmX3 hown hK hP hD hS (by omega : 0 < 8) ha0_10 hmu10 rfl 3 (by decide) (hts _ wm_80) (fun _ h9 => h9) rfl hin rfl (by decide +kernel) rfl rfl (Nat.le_of_ble_eq_true rfl) dX3_init_52 (fun cu11 H locs hscu11 hccu11 hP hD hS => ?_)
  have hccu11 : cu11 0 = .inr (3, [.ref (au1 1), .ref (au4 3), .ref (au7 5), .ref (au10 7), .int 0, .int 0, .null, .null, .null]) := hccu11
  have t1_11 : tTx ca au10 cu11 1 400 [] := t1_10.mv rfl (hscu11 (1) (by omega)) (hscu11 (1 + 1) (by omega))
  have t3_11 : tTx ca au10 cu11 3 400 [] := t3_10.mv rfl (hscu11 (3) (by omega)) (hscu11 (3 + 1) (by omega))
  have t5_11 : tTx ca au10 cu11 5 1024 [] := t5_10.mv rfl (hscu11 (5) (by omega)) (hscu11 (5 + 1) (by omega))
  have e1_11 : au10 1 = au1 1 := e1_10
  have e3_11 : au10 3 = au4 3 := e3_10
  have e5_11 : au10 5 = au7 5 := e5_10
  have g7_11 : cu11 7 = .inl (ca 1, 20, .inr (.inr (.inr (.inr (fun _ => none))))) := (hscu11 (7) (by omega)).trans g7_0
  have e7_11 : au10 7 = au10 7 := hk7
  refine lv_iconst (v := 0) hx hb dX3_init_55 (by decide) ?_
  refine lv_istore_n (lv' := [(1, .int 0), (0, .ref (ad 0))]) hx hb dX3_init_56 rfl hl (by decide) rfl (fun ls hl => ?_)
  have loop : ∀ (q i : Nat) (ad1 : Nat → Nat) (c1 : Nat → va_E) (H : Heap) (locs : List Loc) (ls : Array Slot), i ≤ 20 → 20 < i + q → (c1 0 = .inr (3, [.ref (au1 1), .ref (au4 3), .ref (au7 5), .ref (au10 7), .int 0, .int 0, .null, .null, .null])) → (ad1 0 = ad 0) → (tTx ca ad1 c1 1 400 []) → (tTx ca ad1 c1 3 400 []) → (tTx ca ad1 c1 5 1024 []) → (∃ g : Nat → Option Nat, c1 7 = .inl (ca 1, 20, .inr (.inr (.inr (.inr g)))) ∧ ∀ j, j < i → g j = some (ad1 (8 + 2 * j))) → (∀ j, j < i → tTx ca ad1 c1 (8 + 2 * j) 40 []) → (ad1 1 = (au1 1)) → (ad1 3 = (au4 3)) → (ad1 5 = (au7 5)) → (ad1 7 = (au10 7)) → va_P D vwCl (mw (8 + 2 * i) ad1 c1) H → va_D (mA 1 ad s.heap.size) (mw (8 + 2 * i) ad1 c1) → va_S (mA 1 ad s.heap.size) s.heap H locs → lv_has ls 2 [(1, .int (nI i)), (0, .ref (ad 0))] → W pg9 l ev9 (headSpec wsX3_init ({ frames := 2, cells := 51, slots := 2740, locals := 33 })).room s m ([.ref (ad 0)] : List Value).toArray below meth cd H locs (7 + 2 * i) (1850 + 42 * i) (MQ below (va_Qv (fun u : (Nat → Nat) × (Nat → va_E) => (fun ad1 c1 => ad1 0 = ad 0 ∧ tMF ca ad1 c1 [] [] [] (fun _ => []) 0 0 (false, false, false, false) 0 (-1) 0 0 []) u.1 u.2) (fun u t => va_P D vwCl (mw (52) u.1 u.2) t.heap ∧ va_D (mA 1 ad s.heap.size) (mw (52) u.1 u.2)) (mA 1 ad s.heap.size)) ([.ref (ad 0)] : List Value).toArray s 51 2740 (mA 1 ad s.heap.size)) (F0 m 57 ls []) := by
    intro q
    induction q with
    | zero => intro i ad1 c1 H locs ls hi hq; omega
    | succ q ih =>
      intro i ad1 c1 H locs ls hi hq hm ha0 ht1 ht3 ht5 hg htA he1 he3 he5 he7 hP hD hS hl
      obtain ⟨g, h7, hg⟩ := hg
      refine lv_iload_n hx hb dX3_init_57 rfl (lv_at hl 0 rfl) ?_
      refine lv_aload_n hx hb dX3_init_58 rfl (lv_at hl 1 rfl) ?_
      refine mx_r (.ref (ad1 0)) (by rw [ha0]) ?_
      refine mx_get (ci := 3) (v := .ref (au10 7)) (C := RX3) (T := TX3) (N := 9) hx hb hts inX3 hown hK hP (by omega : 0 < _) hm rfl 3 (by decide) (hts _ wm_80) (fun _ h9 => h9) rfl dX3_init_59 ?_
      refine mx_r (.ref (ad1 7)) (by rw [he7]) ?_
      refine mx_alen (v := nI 20) hx hb hK hP (by omega : 7 < _) 1 h7 rfl rfl dX3_init_62 ?_
      refine lv_icmp_ge (tgt := 87) hx hb dX3_init_63 (by decide) (fun hc => ?_) (fun hc => ?_)
      · skip
        obtain rfl : i = 20 := by have := (nI_leI (by omega) (by omega)).mp hc; omega
        refine lv_aload_n hx hb dX3_init_87 rfl (lv_at hl 1 rfl) ?_
        refine lv_iconst (v := 0) hx hb dX3_init_88 (by decide) ?_
        refine mg_put (ci := 3) (v := .int 0) (ty := .int) (C := RX3) (T := TX3) (N := 9) hx hb hts inX3 tyX3 tyX3_ok nmX3 hown hK hP hD hS (by omega : 0 < 8 + 2 * 20) ha0 hm rfl 4 (by decide) (hts _ wm_81) (fun _ h9 => h9) rfl (by decide +kernel) rfl rfl (Nat.le_of_ble_eq_true rfl) dX3_init_89 (fun c2 H locs hsc2 hcc2 hP hD hS => ?_)
        have hcc2 : c2 0 = .inr (3, [.ref (au1 1), .ref (au4 3), .ref (au7 5), .ref (au10 7), .int 0, .int 0, .null, .null, .null]) := hcc2
        have hm := hcc2
        have ha0 : ad1 0 = ad 0 := ha0
        have ht1 : tTx ca ad1 c2 1 400 [] := ht1.mv rfl (hsc2 (1) (by omega)) (hsc2 (1 + 1) (by omega))
        have ht3 : tTx ca ad1 c2 3 400 [] := ht3.mv rfl (hsc2 (3) (by omega)) (hsc2 (3 + 1) (by omega))
        have ht5 : tTx ca ad1 c2 5 1024 [] := ht5.mv rfl (hsc2 (5) (by omega)) (hsc2 (5 + 1) (by omega))
        have htA : ∀ j, j < 20 → tTx ca ad1 c2 (8 + 2 * j) 40 [] := fun j hj => (htA j hj).mv rfl (hsc2 (8 + 2 * j) (by omega)) (hsc2 (8 + 2 * j + 1) (by omega))
        have h7 : c2 7 = .inl (ca 1, 20, .inr (.inr (.inr (.inr g)))) := (hsc2 (7) (by omega)).trans h7
        refine lv_aload_n hx hb dX3_init_92 rfl (lv_at hl 1 rfl) ?_
        refine lv_iconst (v := 0) hx hb dX3_init_93 (by decide) ?_
        refine mg_put (ci := 3) (v := .int 0) (ty := .int) (C := RX3) (T := TX3) (N := 9) hx hb hts inX3 tyX3 tyX3_ok nmX3 hown hK hP hD hS (by omega : 0 < 8 + 2 * 20) ha0 hm rfl 5 (by decide) (hts _ wm_82) (fun _ h9 => h9) rfl (by decide +kernel) rfl rfl (Nat.le_of_ble_eq_true rfl) dX3_init_94 (fun c3 H locs hsc3 hcc3 hP hD hS => ?_)
        have hcc3 : c3 0 = .inr (3, [.ref (au1 1), .ref (au4 3), .ref (au7 5), .ref (au10 7), .int 0, .int 0, .null, .null, .null]) := hcc3
        have hm := hcc3
        have ha0 : ad1 0 = ad 0 := ha0
        have ht1 : tTx ca ad1 c3 1 400 [] := ht1.mv rfl (hsc3 (1) (by omega)) (hsc3 (1 + 1) (by omega))
        have ht3 : tTx ca ad1 c3 3 400 [] := ht3.mv rfl (hsc3 (3) (by omega)) (hsc3 (3 + 1) (by omega))
        have ht5 : tTx ca ad1 c3 5 1024 [] := ht5.mv rfl (hsc3 (5) (by omega)) (hsc3 (5 + 1) (by omega))
        have htA : ∀ j, j < 20 → tTx ca ad1 c3 (8 + 2 * j) 40 [] := fun j hj => (htA j hj).mv rfl (hsc3 (8 + 2 * j) (by omega)) (hsc3 (8 + 2 * j + 1) (by omega))
        have h7 : c3 7 = .inl (ca 1, 20, .inr (.inr (.inr (.inr g)))) := (hsc3 (7) (by omega)).trans h7
        refine W.cs (cells' := 47) (slots' := 2690) rfl rfl ?_
        refine lv_aload_n hx hb dX3_init_97 rfl (lv_at hl 1 rfl) ?_
        refine mg_new (n := 48) (ci := 1) (fs := [.int 0, .int 0, .int 0, .int 0, .int 0, .int 0, .int 0]) (C := RX1) (T := TX1) (N := 7) hx hb hts inX1 tyX1 tyX1_ok hown (hts _ wm_33) (hts _ wm_34) (hts _ wm_3) hK hP hD hS hA rfl (fun j hj => by (match j, hj with | 0, _ => rfl | 1, _ => rfl | 2, _ => rfl | 3, _ => rfl | 4, _ => rfl | 5, _ => rfl | 6, _ => rfl)) (Nat.le_of_ble_eq_true rfl) (Nat.le_of_ble_eq_true rfl) dX3_init_98 (fun ad4 c4 H ha4 hc4 hn4 hP hD hS => ?_)
        have hm : c4 0 = .inr (3, [.ref (au1 1), .ref (au4 3), .ref (au7 5), .ref (au10 7), .int 0, .int 0, .null, .null, .null]) := (hc4 0 (by omega)).trans hm
        have ha0 : ad4 0 = ad 0 := (ha4 (0) (by omega)).trans ha0
        have ht1 : tTx ca ad4 c4 1 400 [] := ht1.mv (ha4 (1 + 1) (by omega)) (hc4 (1) (by omega)) (hc4 (1 + 1) (by omega))
        have he1 : ad4 1 = (au1 1) := (ha4 (1) (by omega)).trans he1
        have ht3 : tTx ca ad4 c4 3 400 [] := ht3.mv (ha4 (3 + 1) (by omega)) (hc4 (3) (by omega)) (hc4 (3 + 1) (by omega))
        have he3 : ad4 3 = (au4 3) := (ha4 (3) (by omega)).trans he3
        have ht5 : tTx ca ad4 c4 5 1024 [] := ht5.mv (ha4 (5 + 1) (by omega)) (hc4 (5) (by omega)) (hc4 (5 + 1) (by omega))
        have he5 : ad4 5 = (au7 5) := (ha4 (5) (by omega)).trans he5
        have he7 : ad4 7 = (au10 7) := (ha4 (7) (by omega)).trans he7
        have htA : ∀ j, j < 20 → tTx ca ad4 c4 (8 + 2 * j) 40 [] := fun j hj => (htA j hj).mv (ha4 (8 + 2 * j + 1) (by omega)) (hc4 (8 + 2 * j) (by omega)) (hc4 (8 + 2 * j + 1) (by omega))
        have hg : ∀ j, j < 20 → g j = some (ad4 (8 + 2 * j)) := fun j hj => by rw [ha4 (8 + 2 * j) (by omega)]; exact hg j hj
        have h7 : c4 7 = .inl (ca 1, 20, .inr (.inr (.inr (.inr g)))) := (hc4 (7) (by omega)).trans h7
        refine lv_dup hx hb dX3_init_101 rfl ?_
        refine mg_c0 (va_runI (As := []) (rest := [.ref (ad4 48), .ref (ad 0)]) ⟨hx, hb, hml, hown, hts⟩ (c_Place_init l D ca (49) ad4 c4 (k := 48) (by omega) hn4 _) (cwI 0 hts (gW wm_37) rfl rfl rfl (hts _ wm_3) (hts _ wm_35) (hts _ wm_36) rfl (by decide +kernel) ⟨Nat.le_of_ble_eq_true rfl, Nat.le_of_ble_eq_true rfl⟩) (mg_ps hK hP hD hN) rfl rfl hl.1 rfl (lv_room (Nat.le_of_ble_eq_true rfl)) dX3_init_102 ⟨by exact Nat.le_of_ble_eq_true rfl, by exact Nat.le_of_ble_eq_true rfl⟩) hS hA hD (fun c5 H locs hw hP hD hS => ?_)
        obtain ⟨hrc5, hsc5⟩ := hw
        have hm : c5 0 = .inr (3, [.ref (au1 1), .ref (au4 3), .ref (au7 5), .ref (au10 7), .int 0, .int 0, .null, .null, .null]) := (hsc5 0 (by omega)).trans hm
        have ha0 : ad4 0 = ad 0 := ha0
        have ht1 : tTx ca ad4 c5 1 400 [] := ht1.mv rfl (hsc5 (1) (by omega)) (hsc5 (1 + 1) (by omega))
        have ht3 : tTx ca ad4 c5 3 400 [] := ht3.mv rfl (hsc5 (3) (by omega)) (hsc5 (3 + 1) (by omega))
        have ht5 : tTx ca ad4 c5 5 1024 [] := ht5.mv rfl (hsc5 (5) (by omega)) (hsc5 (5 + 1) (by omega))
        have htA : ∀ j, j < 20 → tTx ca ad4 c5 (8 + 2 * j) 40 [] := fun j hj => (htA j hj).mv rfl (hsc5 (8 + 2 * j) (by omega)) (hsc5 (8 + 2 * j + 1) (by omega))
        have h7 : c5 7 = .inl (ca 1, 20, .inr (.inr (.inr (.inr g)))) := (hsc5 (7) (by omega)).trans h7
        have hp48 : c5 48 = .inr (1, [.int (bI false), .int (bI false), .int (bI false), .int (bI false), .int 0, .int (-1), .int 0]) := hrc5
        have hp48e : ad4 48 = ad4 48 := rfl
        refine mg_putF (ci := 3) (v := .ref (ad4 48)) (ty := (.object "FormatMill$Place")) (C := RX3) (T := TX3) (N := 9) hx hb hts inX3 tyX3 tyX3_ok nmX3 hown hK hP hD hS (by omega : 0 < 49) ha0 hm rfl 6 (by decide) (hts _ wm_83) (fun _ h9 => h9) rfl hin rfl (by decide +kernel) rfl rfl (Nat.le_of_ble_eq_true rfl) dX3_init_105 (fun c6 H locs hsc6 hcc6 hP hD hS => ?_)
        have hcc6 : c6 0 = .inr (3, [.ref (au1 1), .ref (au4 3), .ref (au7 5), .ref (au10 7), .int 0, .int 0, .ref (ad4 48), .null, .null]) := hcc6
        have hm := hcc6
        have ha0 : ad4 0 = ad 0 := ha0
        have ht1 : tTx ca ad4 c6 1 400 [] := ht1.mv rfl (hsc6 (1) (by omega)) (hsc6 (1 + 1) (by omega))
        have ht3 : tTx ca ad4 c6 3 400 [] := ht3.mv rfl (hsc6 (3) (by omega)) (hsc6 (3 + 1) (by omega))
        have ht5 : tTx ca ad4 c6 5 1024 [] := ht5.mv rfl (hsc6 (5) (by omega)) (hsc6 (5 + 1) (by omega))
        have htA : ∀ j, j < 20 → tTx ca ad4 c6 (8 + 2 * j) 40 [] := fun j hj => (htA j hj).mv rfl (hsc6 (8 + 2 * j) (by omega)) (hsc6 (8 + 2 * j + 1) (by omega))
        have h7 : c6 7 = .inl (ca 1, 20, .inr (.inr (.inr (.inr g)))) := (hsc6 (7) (by omega)).trans h7
        have hp48 : c6 48 = .inr (1, [.int (bI false), .int (bI false), .int (bI false), .int (bI false), .int 0, .int (-1), .int 0]) := (hsc6 (48) (by omega)).trans hp48
        refine lv_aload_n hx hb dX3_init_108 rfl (lv_at hl 1 rfl) ?_
        refine mg_new (n := 49) (ci := 0) (fs := [.long 0]) (C := RX0) (T := TX0) (N := 1) hx hb hts inX0 tyX0 tyX0_ok hown (hts _ wm_66) (hts _ wm_67) (hts _ wm_4) hK hP hD hS hA rfl (fun j hj => by (match j, hj with | 0, _ => rfl)) (Nat.le_of_ble_eq_true rfl) (Nat.le_of_ble_eq_true rfl) dX3_init_109 (fun ad7 c7 H ha7 hc7 hn7 hP hD hS => ?_)
        have hm : c7 0 = .inr (3, [.ref (au1 1), .ref (au4 3), .ref (au7 5), .ref (au10 7), .int 0, .int 0, .ref (ad4 48), .null, .null]) := (hc7 0 (by omega)).trans hm
        have ha0 : ad7 0 = ad 0 := (ha7 (0) (by omega)).trans ha0
        have ht1 : tTx ca ad7 c7 1 400 [] := ht1.mv (ha7 (1 + 1) (by omega)) (hc7 (1) (by omega)) (hc7 (1 + 1) (by omega))
        have he1 : ad7 1 = (au1 1) := (ha7 (1) (by omega)).trans he1
        have ht3 : tTx ca ad7 c7 3 400 [] := ht3.mv (ha7 (3 + 1) (by omega)) (hc7 (3) (by omega)) (hc7 (3 + 1) (by omega))
        have he3 : ad7 3 = (au4 3) := (ha7 (3) (by omega)).trans he3
        have ht5 : tTx ca ad7 c7 5 1024 [] := ht5.mv (ha7 (5 + 1) (by omega)) (hc7 (5) (by omega)) (hc7 (5 + 1) (by omega))
        have he5 : ad7 5 = (au7 5) := (ha7 (5) (by omega)).trans he5
        have he7 : ad7 7 = (au10 7) := (ha7 (7) (by omega)).trans he7
        have htA : ∀ j, j < 20 → tTx ca ad7 c7 (8 + 2 * j) 40 [] := fun j hj => (htA j hj).mv (ha7 (8 + 2 * j + 1) (by omega)) (hc7 (8 + 2 * j) (by omega)) (hc7 (8 + 2 * j + 1) (by omega))
        have hg : ∀ j, j < 20 → g j = some (ad7 (8 + 2 * j)) := fun j hj => by rw [ha7 (8 + 2 * j) (by omega)]; exact hg j hj
        have h7 : c7 7 = .inl (ca 1, 20, .inr (.inr (.inr (.inr g)))) := (hc7 (7) (by omega)).trans h7
        have hp48 : c7 48 = .inr (1, [.int (bI false), .int (bI false), .int (bI false), .int (bI false), .int 0, .int (-1), .int 0]) := (hc7 (48) (by omega)).trans hp48
        have hp48e : ad7 48 = ad4 48 := (ha7 (48) (by omega)).trans hp48e
        refine lv_dup hx hb dX3_init_112 rfl ?_
        refine mg_c0 (va_runI (As := []) (rest := [.ref (ad7 49), .ref (ad 0)]) ⟨hx, hb, hml, hown, hts⟩ (c_Num_init l D ca (50) ad7 c7 (k := 49) (by omega) hn7 _) (cwI 0 hts (gW wm_70) rfl rfl rfl (hts _ wm_4) (hts _ wm_68) (hts _ wm_69) rfl (by decide +kernel) ⟨Nat.le_of_ble_eq_true rfl, Nat.le_of_ble_eq_true rfl⟩) (mg_ps hK hP hD hN) rfl rfl hl.1 rfl (lv_room (Nat.le_of_ble_eq_true rfl)) dX3_init_113 ⟨by exact Nat.le_of_ble_eq_true rfl, by exact Nat.le_of_ble_eq_true rfl⟩) hS hA hD (fun c8 H locs hw hP hD hS => ?_)
        obtain ⟨hrc8, hsc8⟩ := hw
        have hm : c8 0 = .inr (3, [.ref (au1 1), .ref (au4 3), .ref (au7 5), .ref (au10 7), .int 0, .int 0, .ref (ad4 48), .null, .null]) := (hsc8 0 (by omega)).trans hm
        have ha0 : ad7 0 = ad 0 := ha0
        have ht1 : tTx ca ad7 c8 1 400 [] := ht1.mv rfl (hsc8 (1) (by omega)) (hsc8 (1 + 1) (by omega))
        have ht3 : tTx ca ad7 c8 3 400 [] := ht3.mv rfl (hsc8 (3) (by omega)) (hsc8 (3 + 1) (by omega))
        have ht5 : tTx ca ad7 c8 5 1024 [] := ht5.mv rfl (hsc8 (5) (by omega)) (hsc8 (5 + 1) (by omega))
        have htA : ∀ j, j < 20 → tTx ca ad7 c8 (8 + 2 * j) 40 [] := fun j hj => (htA j hj).mv rfl (hsc8 (8 + 2 * j) (by omega)) (hsc8 (8 + 2 * j + 1) (by omega))
        have h7 : c8 7 = .inl (ca 1, 20, .inr (.inr (.inr (.inr g)))) := (hsc8 (7) (by omega)).trans h7
        have hp48 : c8 48 = .inr (1, [.int (bI false), .int (bI false), .int (bI false), .int (bI false), .int 0, .int (-1), .int 0]) := (hsc8 (48) (by omega)).trans hp48
        have hp49 : c8 49 = .inr (0, [.long 0]) := hrc8
        have hp49e : ad7 49 = ad7 49 := rfl
        refine mg_putF (ci := 3) (v := .ref (ad7 49)) (ty := (.object "FormatMill$Numeral")) (C := RX3) (T := TX3) (N := 9) hx hb hts inX3 tyX3 tyX3_ok nmX3 hown hK hP hD hS (by omega : 0 < 50) ha0 hm rfl 7 (by decide) (hts _ wm_84) (fun _ h9 => h9) rfl hin rfl (by decide +kernel) rfl rfl (Nat.le_of_ble_eq_true rfl) dX3_init_116 (fun c9 H locs hsc9 hcc9 hP hD hS => ?_)
        have hcc9 : c9 0 = .inr (3, [.ref (au1 1), .ref (au4 3), .ref (au7 5), .ref (au10 7), .int 0, .int 0, .ref (ad4 48), .ref (ad7 49), .null]) := hcc9
        have hm := hcc9
        have ha0 : ad7 0 = ad 0 := ha0
        have ht1 : tTx ca ad7 c9 1 400 [] := ht1.mv rfl (hsc9 (1) (by omega)) (hsc9 (1 + 1) (by omega))
        have ht3 : tTx ca ad7 c9 3 400 [] := ht3.mv rfl (hsc9 (3) (by omega)) (hsc9 (3 + 1) (by omega))
        have ht5 : tTx ca ad7 c9 5 1024 [] := ht5.mv rfl (hsc9 (5) (by omega)) (hsc9 (5 + 1) (by omega))
        have htA : ∀ j, j < 20 → tTx ca ad7 c9 (8 + 2 * j) 40 [] := fun j hj => (htA j hj).mv rfl (hsc9 (8 + 2 * j) (by omega)) (hsc9 (8 + 2 * j + 1) (by omega))
        have h7 : c9 7 = .inl (ca 1, 20, .inr (.inr (.inr (.inr g)))) := (hsc9 (7) (by omega)).trans h7
        have hp48 : c9 48 = .inr (1, [.int (bI false), .int (bI false), .int (bI false), .int (bI false), .int 0, .int (-1), .int 0]) := (hsc9 (48) (by omega)).trans hp48
        have hp49 : c9 49 = .inr (0, [.long 0]) := (hsc9 (49) (by omega)).trans hp49
        refine lv_aload_n hx hb dX3_init_119 rfl (lv_at hl 1 rfl) ?_
        refine mg_new (n := 50) (ci := 2) (fs := [.null, .int 0]) (C := RX2) (T := TX2) (N := 2) hx hb hts inX2 tyX2 tyX2_ok hown (hts _ wm_15) (hts _ wm_16) (hts _ wm_2) hK hP hD hS hA rfl (fun j hj => by (match j, hj with | 0, _ => rfl | 1, _ => rfl)) (Nat.le_of_ble_eq_true rfl) (Nat.le_of_ble_eq_true rfl) dX3_init_120 (fun ad10 c10 H ha10 hc10 hn10 hP hD hS => ?_)
        have hm : c10 0 = .inr (3, [.ref (au1 1), .ref (au4 3), .ref (au7 5), .ref (au10 7), .int 0, .int 0, .ref (ad4 48), .ref (ad7 49), .null]) := (hc10 0 (by omega)).trans hm
        have ha0 : ad10 0 = ad 0 := (ha10 (0) (by omega)).trans ha0
        have ht1 : tTx ca ad10 c10 1 400 [] := ht1.mv (ha10 (1 + 1) (by omega)) (hc10 (1) (by omega)) (hc10 (1 + 1) (by omega))
        have he1 : ad10 1 = (au1 1) := (ha10 (1) (by omega)).trans he1
        have ht3 : tTx ca ad10 c10 3 400 [] := ht3.mv (ha10 (3 + 1) (by omega)) (hc10 (3) (by omega)) (hc10 (3 + 1) (by omega))
        have he3 : ad10 3 = (au4 3) := (ha10 (3) (by omega)).trans he3
        have ht5 : tTx ca ad10 c10 5 1024 [] := ht5.mv (ha10 (5 + 1) (by omega)) (hc10 (5) (by omega)) (hc10 (5 + 1) (by omega))
        have he5 : ad10 5 = (au7 5) := (ha10 (5) (by omega)).trans he5
        have he7 : ad10 7 = (au10 7) := (ha10 (7) (by omega)).trans he7
        have htA : ∀ j, j < 20 → tTx ca ad10 c10 (8 + 2 * j) 40 [] := fun j hj => (htA j hj).mv (ha10 (8 + 2 * j + 1) (by omega)) (hc10 (8 + 2 * j) (by omega)) (hc10 (8 + 2 * j + 1) (by omega))
        have hg : ∀ j, j < 20 → g j = some (ad10 (8 + 2 * j)) := fun j hj => by rw [ha10 (8 + 2 * j) (by omega)]; exact hg j hj
        have h7 : c10 7 = .inl (ca 1, 20, .inr (.inr (.inr (.inr g)))) := (hc10 (7) (by omega)).trans h7
        have hp48 : c10 48 = .inr (1, [.int (bI false), .int (bI false), .int (bI false), .int (bI false), .int 0, .int (-1), .int 0]) := (hc10 (48) (by omega)).trans hp48
        have hp48e : ad10 48 = ad4 48 := (ha10 (48) (by omega)).trans hp48e
        have hp49 : c10 49 = .inr (0, [.long 0]) := (hc10 (49) (by omega)).trans hp49
        have hp49e : ad10 49 = ad7 49 := (ha10 (49) (by omega)).trans hp49e
        refine lv_dup hx hb dX3_init_123 rfl ?_
        refine lv_bipush (v := 40) hx hb dX3_init_124 (by decide) ?_
        refine mg_ci (As := [.int 40]) (rest := [.ref (ad10 50), .ref (ad 0)]) ⟨hx, hb, hml, hown, hts⟩ (c_Text_init l D ca 51 ad10 c10 (k := 50) (cap := 40) (by omega) hn10 40 rfl (by decide)) (cwI 1 hts (gW wm_19) rfl rfl rfl (hts _ wm_2) (hts _ wm_17) (hts _ wm_18) rfl (by decide +kernel) ⟨Nat.le_of_ble_eq_true rfl, Nat.le_of_ble_eq_true rfl⟩) hK hP hD hN hS hA rfl hl.1 rfl (lv_room (Nat.le_of_ble_eq_true rfl)) dX3_init_126 ⟨by exact Nat.le_of_ble_eq_true rfl, by exact Nat.le_of_ble_eq_true rfl⟩ (fun ad11 c11 H locs hw hP hD hS => ?_)
        obtain ⟨ha11, hc11, ht50⟩ := hw
        have hm : c11 0 = .inr (3, [.ref (au1 1), .ref (au4 3), .ref (au7 5), .ref (au10 7), .int 0, .int 0, .ref (ad4 48), .ref (ad7 49), .null]) := (hc11 0 (by omega)).trans hm
        have ha0 : ad11 0 = ad 0 := (ha11 (0) (by omega)).trans ha0
        have ht1 : tTx ca ad11 c11 1 400 [] := ht1.mv (ha11 (1 + 1) (by omega)) (hc11 (1) (by omega)) (hc11 (1 + 1) (by omega))
        have he1 : ad11 1 = (au1 1) := (ha11 (1) (by omega)).trans he1
        have ht3 : tTx ca ad11 c11 3 400 [] := ht3.mv (ha11 (3 + 1) (by omega)) (hc11 (3) (by omega)) (hc11 (3 + 1) (by omega))
        have he3 : ad11 3 = (au4 3) := (ha11 (3) (by omega)).trans he3
        have ht5 : tTx ca ad11 c11 5 1024 [] := ht5.mv (ha11 (5 + 1) (by omega)) (hc11 (5) (by omega)) (hc11 (5 + 1) (by omega))
        have he5 : ad11 5 = (au7 5) := (ha11 (5) (by omega)).trans he5
        have he7 : ad11 7 = (au10 7) := (ha11 (7) (by omega)).trans he7
        have htA : ∀ j, j < 20 → tTx ca ad11 c11 (8 + 2 * j) 40 [] := fun j hj => (htA j hj).mv (ha11 (8 + 2 * j + 1) (by omega)) (hc11 (8 + 2 * j) (by omega)) (hc11 (8 + 2 * j + 1) (by omega))
        have hg : ∀ j, j < 20 → g j = some (ad11 (8 + 2 * j)) := fun j hj => by rw [ha11 (8 + 2 * j) (by omega)]; exact hg j hj
        have h7 : c11 7 = .inl (ca 1, 20, .inr (.inr (.inr (.inr g)))) := (hc11 (7) (by omega)).trans h7
        have hp48 : c11 48 = .inr (1, [.int (bI false), .int (bI false), .int (bI false), .int (bI false), .int 0, .int (-1), .int 0]) := (hc11 (48) (by omega)).trans hp48
        have hp48e : ad11 48 = ad4 48 := (ha11 (48) (by omega)).trans hp48e
        have hp49 : c11 49 = .inr (0, [.long 0]) := (hc11 (49) (by omega)).trans hp49
        have hp49e : ad11 49 = ad7 49 := (ha11 (49) (by omega)).trans hp49e
        have he50 : ad11 50 = ad10 50 := ha11 50 (by omega)
        refine mg_putF (ci := 3) (v := .ref (ad10 50)) (ty := (.object "FormatMill$Text")) (C := RX3) (T := TX3) (N := 9) hx hb hts inX3 tyX3 tyX3_ok nmX3 hown hK hP hD hS (by omega : 0 < 52) ha0 hm rfl 8 (by decide) (hts _ wm_85) (fun _ h9 => h9) rfl hin rfl (by decide +kernel) rfl rfl (Nat.le_of_ble_eq_true rfl) dX3_init_129 (fun c12 H locs hsc12 hcc12 hP hD hS => ?_)
        have hcc12 : c12 0 = .inr (3, [.ref (au1 1), .ref (au4 3), .ref (au7 5), .ref (au10 7), .int 0, .int 0, .ref (ad4 48), .ref (ad7 49), .ref (ad10 50)]) := hcc12
        have hm := hcc12
        have ha0 : ad11 0 = ad 0 := ha0
        have ht1 : tTx ca ad11 c12 1 400 [] := ht1.mv rfl (hsc12 (1) (by omega)) (hsc12 (1 + 1) (by omega))
        have ht3 : tTx ca ad11 c12 3 400 [] := ht3.mv rfl (hsc12 (3) (by omega)) (hsc12 (3 + 1) (by omega))
        have ht5 : tTx ca ad11 c12 5 1024 [] := ht5.mv rfl (hsc12 (5) (by omega)) (hsc12 (5 + 1) (by omega))
        have htA : ∀ j, j < 20 → tTx ca ad11 c12 (8 + 2 * j) 40 [] := fun j hj => (htA j hj).mv rfl (hsc12 (8 + 2 * j) (by omega)) (hsc12 (8 + 2 * j + 1) (by omega))
        have h7 : c12 7 = .inl (ca 1, 20, .inr (.inr (.inr (.inr g)))) := (hsc12 (7) (by omega)).trans h7
        have hp48 : c12 48 = .inr (1, [.int (bI false), .int (bI false), .int (bI false), .int (bI false), .int 0, .int (-1), .int 0]) := (hsc12 (48) (by omega)).trans hp48
        have hp49 : c12 49 = .inr (0, [.long 0]) := (hsc12 (49) (by omega)).trans hp49
        have ht50 : tTx ca ad11 c12 50 40 [] := ht50.mv rfl (hsc12 50 (by omega)) (hsc12 (50 + 1) (by omega))
        have hpost : ad11 0 = ad 0 ∧ tMF ca ad11 c12 [] [] [] (fun _ => []) 0 0 (false, false, false, false) 0 (-1) 0 0 [] := by
          refine ⟨ha0, ?_, ht1, ht3, ht5, ⟨g, h7, hg⟩, htA, hp48, hp49, ht50, by omega, by omega⟩
          rw [hm, he1, he3, he5, he7, hp48e, hp49e, he50]
          rfl
        exact mg_vret (post := fun ad1 c1 => ad1 0 = ad 0 ∧ tMF ca ad1 c1 [] [] [] (fun _ => []) 0 0 (false, false, false, false) 0 (-1) 0 0 []) hx hb hr hlocks hP hD hS hpost dX3_init_132
      · skip
        have hlt : i < 20 := by rcases Nat.lt_or_ge i 20 with h | h; exact h; exact absurd (nI_le h (by omega)) hc
        refine lv_aload_n hx hb dX3_init_66 rfl (lv_at hl 1 rfl) ?_
        refine mx_r (.ref (ad1 0)) (by rw [ha0]) ?_
        refine mx_get (ci := 3) (v := .ref (au10 7)) (C := RX3) (T := TX3) (N := 9) hx hb hts inX3 hown hK hP (by omega : 0 < _) hm rfl 3 (by decide) (hts _ wm_80) (fun _ h9 => h9) rfl dX3_init_67 ?_
        refine lv_iload_n hx hb dX3_init_70 rfl (lv_at hl 0 rfl) ?_
        refine mg_new (n := 8 + 2 * i) (ci := 2) (fs := [.null, .int 0]) (C := RX2) (T := TX2) (N := 2) hx hb hts inX2 tyX2 tyX2_ok hown (hts _ wm_15) (hts _ wm_16) (hts _ wm_2) hK hP hD hS hA rfl (fun j hj => by (match j, hj with | 0, _ => rfl | 1, _ => rfl)) (by show 7 + 2 * i + 1 ≤ 51; omega) (by show 1850 + 42 * i + 2 ≤ 2740; omega) dX3_init_71 (fun ad2 c2 H ha2 hc2 hn2 hP hD hS => ?_)
        have hm : c2 0 = .inr (3, [.ref (au1 1), .ref (au4 3), .ref (au7 5), .ref (au10 7), .int 0, .int 0, .null, .null, .null]) := (hc2 0 (by omega)).trans hm
        have ha0 : ad2 0 = ad 0 := (ha2 (0) (by omega)).trans ha0
        have ht1 : tTx ca ad2 c2 1 400 [] := ht1.mv (ha2 (1 + 1) (by omega)) (hc2 (1) (by omega)) (hc2 (1 + 1) (by omega))
        have he1 : ad2 1 = (au1 1) := (ha2 (1) (by omega)).trans he1
        have ht3 : tTx ca ad2 c2 3 400 [] := ht3.mv (ha2 (3 + 1) (by omega)) (hc2 (3) (by omega)) (hc2 (3 + 1) (by omega))
        have he3 : ad2 3 = (au4 3) := (ha2 (3) (by omega)).trans he3
        have ht5 : tTx ca ad2 c2 5 1024 [] := ht5.mv (ha2 (5 + 1) (by omega)) (hc2 (5) (by omega)) (hc2 (5 + 1) (by omega))
        have he5 : ad2 5 = (au7 5) := (ha2 (5) (by omega)).trans he5
        have he7 : ad2 7 = (au10 7) := (ha2 (7) (by omega)).trans he7
        have htA : ∀ j, j < i → tTx ca ad2 c2 (8 + 2 * j) 40 [] := fun j hj => (htA j hj).mv (ha2 (8 + 2 * j + 1) (by omega)) (hc2 (8 + 2 * j) (by omega)) (hc2 (8 + 2 * j + 1) (by omega))
        have h7 := (hc2 7 (by omega)).trans h7
        have hg : ∀ j, j < i → g j = some (ad2 (8 + 2 * j)) := fun j hj => by rw [ha2 _ (by omega)]; exact hg j hj
        refine lv_dup hx hb dX3_init_74 rfl ?_
        refine lv_bipush (v := 40) hx hb dX3_init_75 (by decide) ?_
        refine mg_ci (As := [.int 40]) (rest := [.ref (ad2 (8 + 2 * i)), .int (nI i), .ref ((au10 7))]) ⟨hx, hb, hml, hown, hts⟩ (c_Text_init l D ca (8 + 2 * i + 1) ad2 c2 (k := 8 + 2 * i) (cap := 40) rfl hn2 40 rfl (by decide)) (cwI 1 hts (gW wm_19) rfl rfl rfl (hts _ wm_2) (hts _ wm_17) (hts _ wm_18) rfl (by decide +kernel) ⟨Nat.le_of_ble_eq_true rfl, Nat.le_of_ble_eq_true rfl⟩) hK hP hD hN hS hA rfl hl.1 rfl (lv_room (Nat.le_of_ble_eq_true rfl)) dX3_init_77 ⟨by show 7 + 2 * i + 1 + 1 ≤ 51; omega, by show 1850 + 42 * i + 2 + 40 ≤ 2740; omega⟩ (fun ad3 c3 H locs hw hP hD hS => ?_)
        obtain ⟨ha3, hc3, htn⟩ := hw
        have hm : c3 0 = .inr (3, [.ref (au1 1), .ref (au4 3), .ref (au7 5), .ref (au10 7), .int 0, .int 0, .null, .null, .null]) := (hc3 0 (by omega)).trans hm
        have ha0 : ad3 0 = ad 0 := (ha3 (0) (by omega)).trans ha0
        have ht1 : tTx ca ad3 c3 1 400 [] := ht1.mv (ha3 (1 + 1) (by omega)) (hc3 (1) (by omega)) (hc3 (1 + 1) (by omega))
        have he1 : ad3 1 = (au1 1) := (ha3 (1) (by omega)).trans he1
        have ht3 : tTx ca ad3 c3 3 400 [] := ht3.mv (ha3 (3 + 1) (by omega)) (hc3 (3) (by omega)) (hc3 (3 + 1) (by omega))
        have he3 : ad3 3 = (au4 3) := (ha3 (3) (by omega)).trans he3
        have ht5 : tTx ca ad3 c3 5 1024 [] := ht5.mv (ha3 (5 + 1) (by omega)) (hc3 (5) (by omega)) (hc3 (5 + 1) (by omega))
        have he5 : ad3 5 = (au7 5) := (ha3 (5) (by omega)).trans he5
        have he7 : ad3 7 = (au10 7) := (ha3 (7) (by omega)).trans he7
        have htA : ∀ j, j < i → tTx ca ad3 c3 (8 + 2 * j) 40 [] := fun j hj => (htA j hj).mv (ha3 (8 + 2 * j + 1) (by omega)) (hc3 (8 + 2 * j) (by omega)) (hc3 (8 + 2 * j + 1) (by omega))
        have h7 := (hc3 7 (by omega)).trans h7
        have hg : ∀ j, j < i → g j = some (ad3 (8 + 2 * j)) := fun j hj => by rw [ha3 _ (by omega)]; exact hg j hj
        have hvk : ad3 (8 + 2 * i) = ad2 (8 + 2 * i) := ha3 _ (by omega)
        refine mg_aast (ci := 2) hx hb hK hP hD hS 1 (by omega : 7 < _) he7 (by omega : 8 + 2 * i < _) hvk h7 rfl htn.cell rfl (vp_in_nI hlt (by omega)) dX3_init_80 (fun c4 H locs hs4 hc4 hP hD hS => ?_)
        have hm : c4 0 = .inr (3, [.ref (au1 1), .ref (au4 3), .ref (au7 5), .ref (au10 7), .int 0, .int 0, .null, .null, .null]) := (hs4 0 (by omega)).trans hm
        have ha0 : ad3 0 = ad 0 := ha0
        have ht1 : tTx ca ad3 c4 1 400 [] := ht1.mv rfl (hs4 (1) (by omega)) (hs4 (1 + 1) (by omega))
        have ht3 : tTx ca ad3 c4 3 400 [] := ht3.mv rfl (hs4 (3) (by omega)) (hs4 (3 + 1) (by omega))
        have ht5 : tTx ca ad3 c4 5 1024 [] := ht5.mv rfl (hs4 (5) (by omega)) (hs4 (5 + 1) (by omega))
        have htA : ∀ j, j < i → tTx ca ad3 c4 (8 + 2 * j) 40 [] := fun j hj => (htA j hj).mv rfl (hs4 (8 + 2 * j) (by omega)) (hs4 (8 + 2 * j + 1) (by omega))
        have htn : tTx ca ad3 c4 (8 + 2 * i) 40 [] := htn.mv rfl (hs4 _ (by omega)) (hs4 _ (by omega))
        refine lv_iinc (v := nI (i + 1)) (lv' := [(1, .int (nI (i + 1))), (0, .ref (ad 0))]) hx hb dX3_init_81 hl (k := 0) rfl (nI_1 i) (by decide) rfl (fun ls hl => ?_)
        refine lv_goto (tgt := 57) hx hb dX3_init_84 (by decide) ?_
        refine W.cs (cells' := 7 + 2 * (i + 1)) (slots' := 1850 + 42 * (i + 1)) (by omega) (by omega) ?_
        refine ih (i + 1) ad3 c4 H locs ls (by omega) (by omega) hm ha0 ht1 ht3 ht5 ⟨_, hc4, fun j hj => ?_⟩ (fun j hj => ?_) he1 he3 he5 he7 hP hD hS (lv_sub hl [0, 1] rfl)
        · rw [nI_clamp (by omega)]
          by_cases hji : j = i
          · subst hji; rw [va_up_self, hvk]
          · rw [va_up_ne _ _ hji]; exact hg j (by omega)
        · by_cases hji : j = i
          · subst hji; exact htn
          · exact htA j (by omega)
  exact loop 21 0 au10 cu11 _ _ ls (by omega) (by omega) hccu11 ha0_10 t1_11 t3_11 t5_11 ⟨_, g7_11, fun j hj => absurd hj (by omega)⟩ (fun j hj => absurd hj (by omega)) e1_11 e3_11 e5_11 e7_11 hP hD hS (by have h9 := (lv_sub hl [0, 1] rfl); rw [nI_0]; exact h9)
end
section
theorem dX4_init_0 : decode cX4_init 0 = .ok (.aload_n 0, 1) := by decide +kernel
theorem dX4_init_1 : decode cX4_init 1 = .ok (.invokespecial 1, 3) := by decide +kernel
theorem dX4_init_4 : decode cX4_init 4 = .ok (.aload_n 0, 1) := by decide +kernel
theorem dX4_init_5 : decode cX4_init 5 = .ok (.sipush 400, 3) := by decide +kernel
theorem dX4_init_8 : decode cX4_init 8 = .ok (.newarray .byte, 2) := by decide +kernel
theorem dX4_init_10 : decode cX4_init 10 = .ok (.putfield 7, 3) := by decide +kernel
theorem dX4_init_13 : decode cX4_init 13 = .ok (.aload_n 0, 1) := by decide +kernel
theorem dX4_init_14 : decode cX4_init 14 = .ok (.sipush 400, 3) := by decide +kernel
theorem dX4_init_17 : decode cX4_init 17 = .ok (.newarray .byte, 2) := by decide +kernel
theorem dX4_init_19 : decode cX4_init 19 = .ok (.putfield 13, 3) := by decide +kernel
theorem dX4_init_22 : decode cX4_init 22 = .ok (.aload_n 0, 1) := by decide +kernel
theorem dX4_init_23 : decode cX4_init 23 = .ok (.sipush 800, 3) := by decide +kernel
theorem dX4_init_26 : decode cX4_init 26 = .ok (.newarray .byte, 2) := by decide +kernel
theorem dX4_init_28 : decode cX4_init 28 = .ok (.putfield 16, 3) := by decide +kernel
theorem dX4_init_31 : decode cX4_init 31 = .ok (.aload_n 0, 1) := by decide +kernel
theorem dX4_init_32 : decode cX4_init 32 = .ok (.sipush 1024, 3) := by decide +kernel
theorem dX4_init_35 : decode cX4_init 35 = .ok (.newarray .byte, 2) := by decide +kernel
theorem dX4_init_37 : decode cX4_init 37 = .ok (.putfield 19, 3) := by decide +kernel
theorem dX4_init_40 : decode cX4_init 40 = .ok (.aload_n 0, 1) := by decide +kernel
theorem dX4_init_41 : decode cX4_init 41 = .ok (.bipush 20, 2) := by decide +kernel
theorem dX4_init_43 : decode cX4_init 43 = .ok (.newarray .int, 2) := by decide +kernel
theorem dX4_init_45 : decode cX4_init 45 = .ok (.putfield 22, 3) := by decide +kernel
theorem dX4_init_48 : decode cX4_init 48 = .ok (.aload_n 0, 1) := by decide +kernel
theorem dX4_init_49 : decode cX4_init 49 = .ok (.bipush 72, 2) := by decide +kernel
theorem dX4_init_51 : decode cX4_init 51 = .ok (.newarray .byte, 2) := by decide +kernel
theorem dX4_init_53 : decode cX4_init 53 = .ok (.putfield 26, 3) := by decide +kernel
theorem dX4_init_56 : decode cX4_init 56 = .ok (.return_, 1) := by decide +kernel
theorem dX4_feed_0 : decode cX4_feed 0 = .ok (.aload_n 0, 1) := by decide +kernel
theorem dX4_feed_1 : decode cX4_feed 1 = .ok (.getfield 29, 3) := by decide +kernel
theorem dX4_feed_4 : decode cX4_feed 4 = .ok (.bipush 20, 2) := by decide +kernel
theorem dX4_feed_6 : decode cX4_feed 6 = .ok (.iadd, 1) := by decide +kernel
theorem dX4_feed_7 : decode cX4_feed 7 = .ok (.sipush 400, 3) := by decide +kernel
theorem dX4_feed_10 : decode cX4_feed 10 = .ok (.if_icmp .le 5, 3) := by decide +kernel
theorem dX4_feed_13 : decode cX4_feed 13 = .ok (.iconst 0, 1) := by decide +kernel
theorem dX4_feed_14 : decode cX4_feed 14 = .ok (.ireturn, 1) := by decide +kernel
theorem dX4_feed_15 : decode cX4_feed 15 = .ok (.aload_n 0, 1) := by decide +kernel
theorem dX4_feed_16 : decode cX4_feed 16 = .ok (.iload_n 1, 1) := by decide +kernel
theorem dX4_feed_17 : decode cX4_feed 17 = .ok (.invokevirtual 33, 3) := by decide +kernel
theorem dX4_feed_20 : decode cX4_feed 20 = .ok (.aload_n 0, 1) := by decide +kernel
theorem dX4_feed_21 : decode cX4_feed 21 = .ok (.iload_n 2, 1) := by decide +kernel
theorem dX4_feed_22 : decode cX4_feed 22 = .ok (.invokevirtual 33, 3) := by decide +kernel
theorem dX4_feed_25 : decode cX4_feed 25 = .ok (.aload_n 0, 1) := by decide +kernel
theorem dX4_feed_26 : decode cX4_feed 26 = .ok (.iload_n 3, 1) := by decide +kernel
theorem dX4_feed_27 : decode cX4_feed 27 = .ok (.invokevirtual 33, 3) := by decide +kernel
theorem dX4_feed_30 : decode cX4_feed 30 = .ok (.aload_n 0, 1) := by decide +kernel
theorem dX4_feed_31 : decode cX4_feed 31 = .ok (.iload 4, 2) := by decide +kernel
theorem dX4_feed_33 : decode cX4_feed 33 = .ok (.invokevirtual 33, 3) := by decide +kernel
theorem dX4_feed_36 : decode cX4_feed 36 = .ok (.aload_n 0, 1) := by decide +kernel
theorem dX4_feed_37 : decode cX4_feed 37 = .ok (.iload 5, 2) := by decide +kernel
theorem dX4_feed_39 : decode cX4_feed 39 = .ok (.invokevirtual 33, 3) := by decide +kernel
theorem dX4_feed_42 : decode cX4_feed 42 = .ok (.iconst 1, 1) := by decide +kernel
theorem dX4_feed_43 : decode cX4_feed 43 = .ok (.ireturn, 1) := by decide +kernel
theorem dX4_lay_0 : decode cX4_lay 0 = .ok (.bipush 24, 2) := by decide +kernel
theorem dX4_lay_2 : decode cX4_lay 2 = .ok (.istore_n 2, 1) := by decide +kernel
theorem dX4_lay_3 : decode cX4_lay 3 = .ok (.iload_n 2, 1) := by decide +kernel
theorem dX4_lay_4 : decode cX4_lay 4 = .ok (.ifCond .lt 32, 3) := by decide +kernel
theorem dX4_lay_7 : decode cX4_lay 7 = .ok (.aload_n 0, 1) := by decide +kernel
theorem dX4_lay_8 : decode cX4_lay 8 = .ok (.getfield 7, 3) := by decide +kernel
theorem dX4_lay_11 : decode cX4_lay 11 = .ok (.aload_n 0, 1) := by decide +kernel
theorem dX4_lay_12 : decode cX4_lay 12 = .ok (.getfield 29, 3) := by decide +kernel
theorem dX4_lay_15 : decode cX4_lay 15 = .ok (.iload_n 1, 1) := by decide +kernel
theorem dX4_lay_16 : decode cX4_lay 16 = .ok (.iload_n 2, 1) := by decide +kernel
theorem dX4_lay_17 : decode cX4_lay 17 = .ok (.ishr, 1) := by decide +kernel
theorem dX4_lay_18 : decode cX4_lay 18 = .ok (.i2b, 1) := by decide +kernel
theorem dX4_lay_19 : decode cX4_lay 19 = .ok (.bastore, 1) := by decide +kernel
theorem dX4_lay_20 : decode cX4_lay 20 = .ok (.aload_n 0, 1) := by decide +kernel
theorem dX4_lay_21 : decode cX4_lay 21 = .ok (.dup, 1) := by decide +kernel
theorem dX4_lay_22 : decode cX4_lay 22 = .ok (.getfield 29, 3) := by decide +kernel
theorem dX4_lay_25 : decode cX4_lay 25 = .ok (.iconst 1, 1) := by decide +kernel
theorem dX4_lay_26 : decode cX4_lay 26 = .ok (.iadd, 1) := by decide +kernel
theorem dX4_lay_27 : decode cX4_lay 27 = .ok (.putfield 29, 3) := by decide +kernel
theorem dX4_lay_30 : decode cX4_lay 30 = .ok (.iinc 2 (-8), 3) := by decide +kernel
theorem dX4_lay_33 : decode cX4_lay 33 = .ok (.goto (-30), 3) := by decide +kernel
theorem dX4_lay_36 : decode cX4_lay 36 = .ok (.return_, 1) := by decide +kernel
theorem dX4_end_0 : decode cX4_end 0 = .ok (.iload_n 1, 1) := by decide +kernel
theorem dX4_end_1 : decode cX4_end 1 = .ok (.ifCond .lt 11, 3) := by decide +kernel
theorem dX4_end_4 : decode cX4_end 4 = .ok (.iload_n 1, 1) := by decide +kernel
theorem dX4_end_5 : decode cX4_end 5 = .ok (.aload_n 0, 1) := by decide +kernel
theorem dX4_end_6 : decode cX4_end 6 = .ok (.getfield 29, 3) := by decide +kernel
theorem dX4_end_9 : decode cX4_end 9 = .ok (.if_icmp .le 5, 3) := by decide +kernel
theorem dX4_end_12 : decode cX4_end 12 = .ok (.iconst 0, 1) := by decide +kernel
theorem dX4_end_13 : decode cX4_end 13 = .ok (.ireturn, 1) := by decide +kernel
theorem dX4_end_14 : decode cX4_end 14 = .ok (.aload_n 0, 1) := by decide +kernel
theorem dX4_end_15 : decode cX4_end 15 = .ok (.iload_n 1, 1) := by decide +kernel
theorem dX4_end_16 : decode cX4_end 16 = .ok (.putfield 29, 3) := by decide +kernel
theorem dX4_end_19 : decode cX4_end 19 = .ok (.iconst 1, 1) := by decide +kernel
theorem dX4_end_20 : decode cX4_end 20 = .ok (.ireturn, 1) := by decide +kernel
theorem dX4_format_0 : decode cX4_format 0 = .ok (.aload_n 0, 1) := by decide +kernel
theorem dX4_format_1 : decode cX4_format 1 = .ok (.aload_n 0, 1) := by decide +kernel
theorem dX4_format_2 : decode cX4_format 2 = .ok (.getfield 29, 3) := by decide +kernel
theorem dX4_format_5 : decode cX4_format 5 = .ok (.putfield 37, 3) := by decide +kernel
theorem dX4_format_8 : decode cX4_format 8 = .ok (.iconst 0, 1) := by decide +kernel
theorem dX4_format_9 : decode cX4_format 9 = .ok (.istore_n 1, 1) := by decide +kernel
theorem dX4_format_10 : decode cX4_format 10 = .ok (.iload_n 1, 1) := by decide +kernel
theorem dX4_format_11 : decode cX4_format 11 = .ok (.aload_n 0, 1) := by decide +kernel
theorem dX4_format_12 : decode cX4_format 12 = .ok (.getfield 37, 3) := by decide +kernel
theorem dX4_format_15 : decode cX4_format 15 = .ok (.if_icmp .ge 21, 3) := by decide +kernel
theorem dX4_format_18 : decode cX4_format 18 = .ok (.aload_n 0, 1) := by decide +kernel
theorem dX4_format_19 : decode cX4_format 19 = .ok (.getfield 13, 3) := by decide +kernel
theorem dX4_format_22 : decode cX4_format 22 = .ok (.iload_n 1, 1) := by decide +kernel
theorem dX4_format_23 : decode cX4_format 23 = .ok (.aload_n 0, 1) := by decide +kernel
theorem dX4_format_24 : decode cX4_format 24 = .ok (.getfield 7, 3) := by decide +kernel
theorem dX4_format_27 : decode cX4_format 27 = .ok (.iload_n 1, 1) := by decide +kernel
theorem dX4_format_28 : decode cX4_format 28 = .ok (.baload, 1) := by decide +kernel
theorem dX4_format_29 : decode cX4_format 29 = .ok (.bastore, 1) := by decide +kernel
theorem dX4_format_30 : decode cX4_format 30 = .ok (.iinc 1 1, 3) := by decide +kernel
theorem dX4_format_33 : decode cX4_format 33 = .ok (.goto (-23), 3) := by decide +kernel
theorem dX4_format_36 : decode cX4_format 36 = .ok (.aload_n 0, 1) := by decide +kernel
theorem dX4_format_37 : decode cX4_format 37 = .ok (.iconst 0, 1) := by decide +kernel
theorem dX4_format_38 : decode cX4_format 38 = .ok (.putfield 29, 3) := by decide +kernel
theorem dX4_format_41 : decode cX4_format 41 = .ok (.aload_n 0, 1) := by decide +kernel
theorem dX4_format_42 : decode cX4_format 42 = .ok (.getfield 37, 3) := by decide +kernel
theorem dX4_format_45 : decode cX4_format 45 = .ok (.ireturn, 1) := by decide +kernel
theorem dX4_argument_0 : decode cX4_argument 0 = .ok (.aload_n 0, 1) := by decide +kernel
theorem dX4_argument_1 : decode cX4_argument 1 = .ok (.getfield 29, 3) := by decide +kernel
theorem dX4_argument_4 : decode cX4_argument 4 = .ok (.istore_n 1, 1) := by decide +kernel
theorem dX4_argument_5 : decode cX4_argument 5 = .ok (.aload_n 0, 1) := by decide +kernel
theorem dX4_argument_6 : decode cX4_argument 6 = .ok (.iconst 0, 1) := by decide +kernel
theorem dX4_argument_7 : decode cX4_argument 7 = .ok (.putfield 29, 3) := by decide +kernel
theorem dX4_argument_10 : decode cX4_argument 10 = .ok (.iload_n 1, 1) := by decide +kernel
theorem dX4_argument_11 : decode cX4_argument 11 = .ok (.bipush 40, 2) := by decide +kernel
theorem dX4_argument_13 : decode cX4_argument 13 = .ok (.if_icmp .gt 12, 3) := by decide +kernel
theorem dX4_argument_16 : decode cX4_argument 16 = .ok (.aload_n 0, 1) := by decide +kernel
theorem dX4_argument_17 : decode cX4_argument 17 = .ok (.getfield 40, 3) := by decide +kernel
theorem dX4_argument_20 : decode cX4_argument 20 = .ok (.bipush 20, 2) := by decide +kernel
theorem dX4_argument_22 : decode cX4_argument 22 = .ok (.if_icmp .ne 5, 3) := by decide +kernel
theorem dX4_argument_25 : decode cX4_argument 25 = .ok (.iconst (-1), 1) := by decide +kernel
theorem dX4_argument_26 : decode cX4_argument 26 = .ok (.ireturn, 1) := by decide +kernel
theorem dX4_argument_27 : decode cX4_argument 27 = .ok (.iconst 0, 1) := by decide +kernel
theorem dX4_argument_28 : decode cX4_argument 28 = .ok (.istore_n 2, 1) := by decide +kernel
theorem dX4_argument_29 : decode cX4_argument 29 = .ok (.iload_n 2, 1) := by decide +kernel
theorem dX4_argument_30 : decode cX4_argument 30 = .ok (.iload_n 1, 1) := by decide +kernel
theorem dX4_argument_31 : decode cX4_argument 31 = .ok (.if_icmp .ge 29, 3) := by decide +kernel
theorem dX4_argument_34 : decode cX4_argument 34 = .ok (.aload_n 0, 1) := by decide +kernel
theorem dX4_argument_35 : decode cX4_argument 35 = .ok (.getfield 16, 3) := by decide +kernel
theorem dX4_argument_38 : decode cX4_argument 38 = .ok (.bipush 40, 2) := by decide +kernel
theorem dX4_argument_40 : decode cX4_argument 40 = .ok (.aload_n 0, 1) := by decide +kernel
theorem dX4_argument_41 : decode cX4_argument 41 = .ok (.getfield 40, 3) := by decide +kernel
theorem dX4_argument_44 : decode cX4_argument 44 = .ok (.imul, 1) := by decide +kernel
theorem dX4_argument_45 : decode cX4_argument 45 = .ok (.iload_n 2, 1) := by decide +kernel
theorem dX4_argument_46 : decode cX4_argument 46 = .ok (.iadd, 1) := by decide +kernel
theorem dX4_argument_47 : decode cX4_argument 47 = .ok (.aload_n 0, 1) := by decide +kernel
theorem dX4_argument_48 : decode cX4_argument 48 = .ok (.getfield 7, 3) := by decide +kernel
theorem dX4_argument_51 : decode cX4_argument 51 = .ok (.iload_n 2, 1) := by decide +kernel
theorem dX4_argument_52 : decode cX4_argument 52 = .ok (.baload, 1) := by decide +kernel
theorem dX4_argument_53 : decode cX4_argument 53 = .ok (.bastore, 1) := by decide +kernel
theorem dX4_argument_54 : decode cX4_argument 54 = .ok (.iinc 2 1, 3) := by decide +kernel
theorem dX4_argument_57 : decode cX4_argument 57 = .ok (.goto (-28), 3) := by decide +kernel
theorem dX4_argument_60 : decode cX4_argument 60 = .ok (.aload_n 0, 1) := by decide +kernel
theorem dX4_argument_61 : decode cX4_argument 61 = .ok (.getfield 22, 3) := by decide +kernel
theorem dX4_argument_64 : decode cX4_argument 64 = .ok (.aload_n 0, 1) := by decide +kernel
theorem dX4_argument_65 : decode cX4_argument 65 = .ok (.getfield 40, 3) := by decide +kernel
theorem dX4_argument_68 : decode cX4_argument 68 = .ok (.iload_n 1, 1) := by decide +kernel
theorem dX4_argument_69 : decode cX4_argument 69 = .ok (.iastore, 1) := by decide +kernel
theorem dX4_argument_70 : decode cX4_argument 70 = .ok (.aload_n 0, 1) := by decide +kernel
theorem dX4_argument_71 : decode cX4_argument 71 = .ok (.dup, 1) := by decide +kernel
theorem dX4_argument_72 : decode cX4_argument 72 = .ok (.getfield 40, 3) := by decide +kernel
theorem dX4_argument_75 : decode cX4_argument 75 = .ok (.iconst 1, 1) := by decide +kernel
theorem dX4_argument_76 : decode cX4_argument 76 = .ok (.iadd, 1) := by decide +kernel
theorem dX4_argument_77 : decode cX4_argument 77 = .ok (.putfield 40, 3) := by decide +kernel
theorem dX4_argument_80 : decode cX4_argument 80 = .ok (.aload_n 0, 1) := by decide +kernel
theorem dX4_argument_81 : decode cX4_argument 81 = .ok (.getfield 40, 3) := by decide +kernel
theorem dX4_argument_84 : decode cX4_argument 84 = .ok (.iconst 1, 1) := by decide +kernel
theorem dX4_argument_85 : decode cX4_argument 85 = .ok (.isub, 1) := by decide +kernel
theorem dX4_argument_86 : decode cX4_argument 86 = .ok (.ireturn, 1) := by decide +kernel
theorem dX4_number_0 : decode cX4_number 0 = .ok (.aload_n 0, 1) := by decide +kernel
theorem dX4_number_1 : decode cX4_number 1 = .ok (.getfield 40, 3) := by decide +kernel
theorem dX4_number_4 : decode cX4_number 4 = .ok (.bipush 20, 2) := by decide +kernel
theorem dX4_number_6 : decode cX4_number 6 = .ok (.if_icmp .ne 5, 3) := by decide +kernel
theorem dX4_number_9 : decode cX4_number 9 = .ok (.iconst (-1), 1) := by decide +kernel
theorem dX4_number_10 : decode cX4_number 10 = .ok (.ireturn, 1) := by decide +kernel
theorem dX4_number_11 : decode cX4_number 11 = .ok (.aload_n 0, 1) := by decide +kernel
theorem dX4_number_12 : decode cX4_number 12 = .ok (.lload_n 1, 1) := by decide +kernel
theorem dX4_number_13 : decode cX4_number 13 = .ok (.invokevirtual 43, 3) := by decide +kernel
theorem dX4_number_16 : decode cX4_number 16 = .ok (.bipush 72, 2) := by decide +kernel
theorem dX4_number_18 : decode cX4_number 18 = .ok (.aload_n 0, 1) := by decide +kernel
theorem dX4_number_19 : decode cX4_number 19 = .ok (.getfield 47, 3) := by decide +kernel
theorem dX4_number_22 : decode cX4_number 22 = .ok (.isub, 1) := by decide +kernel
theorem dX4_number_23 : decode cX4_number 23 = .ok (.istore_n 3, 1) := by decide +kernel
theorem dX4_number_24 : decode cX4_number 24 = .ok (.iconst 0, 1) := by decide +kernel
theorem dX4_number_25 : decode cX4_number 25 = .ok (.istore 4, 2) := by decide +kernel
theorem dX4_number_27 : decode cX4_number 27 = .ok (.iload 4, 2) := by decide +kernel
theorem dX4_number_29 : decode cX4_number 29 = .ok (.iload_n 3, 1) := by decide +kernel
theorem dX4_number_30 : decode cX4_number 30 = .ok (.if_icmp .ge 36, 3) := by decide +kernel
theorem dX4_number_33 : decode cX4_number 33 = .ok (.aload_n 0, 1) := by decide +kernel
theorem dX4_number_34 : decode cX4_number 34 = .ok (.getfield 16, 3) := by decide +kernel
theorem dX4_number_37 : decode cX4_number 37 = .ok (.bipush 40, 2) := by decide +kernel
theorem dX4_number_39 : decode cX4_number 39 = .ok (.aload_n 0, 1) := by decide +kernel
theorem dX4_number_40 : decode cX4_number 40 = .ok (.getfield 40, 3) := by decide +kernel
theorem dX4_number_43 : decode cX4_number 43 = .ok (.imul, 1) := by decide +kernel
theorem dX4_number_44 : decode cX4_number 44 = .ok (.iload 4, 2) := by decide +kernel
theorem dX4_number_46 : decode cX4_number 46 = .ok (.iadd, 1) := by decide +kernel
theorem dX4_number_47 : decode cX4_number 47 = .ok (.aload_n 0, 1) := by decide +kernel
theorem dX4_number_48 : decode cX4_number 48 = .ok (.getfield 26, 3) := by decide +kernel
theorem dX4_number_51 : decode cX4_number 51 = .ok (.aload_n 0, 1) := by decide +kernel
theorem dX4_number_52 : decode cX4_number 52 = .ok (.getfield 47, 3) := by decide +kernel
theorem dX4_number_55 : decode cX4_number 55 = .ok (.iload 4, 2) := by decide +kernel
theorem dX4_number_57 : decode cX4_number 57 = .ok (.iadd, 1) := by decide +kernel
theorem dX4_number_58 : decode cX4_number 58 = .ok (.baload, 1) := by decide +kernel
theorem dX4_number_59 : decode cX4_number 59 = .ok (.bastore, 1) := by decide +kernel
theorem dX4_number_60 : decode cX4_number 60 = .ok (.iinc 4 1, 3) := by decide +kernel
theorem dX4_number_63 : decode cX4_number 63 = .ok (.goto (-36), 3) := by decide +kernel
theorem dX4_number_66 : decode cX4_number 66 = .ok (.aload_n 0, 1) := by decide +kernel
theorem dX4_number_67 : decode cX4_number 67 = .ok (.getfield 22, 3) := by decide +kernel
theorem dX4_number_70 : decode cX4_number 70 = .ok (.aload_n 0, 1) := by decide +kernel
theorem dX4_number_71 : decode cX4_number 71 = .ok (.getfield 40, 3) := by decide +kernel
theorem dX4_number_74 : decode cX4_number 74 = .ok (.iload_n 3, 1) := by decide +kernel
theorem dX4_number_75 : decode cX4_number 75 = .ok (.iastore, 1) := by decide +kernel
theorem dX4_number_76 : decode cX4_number 76 = .ok (.aload_n 0, 1) := by decide +kernel
theorem dX4_number_77 : decode cX4_number 77 = .ok (.dup, 1) := by decide +kernel
theorem dX4_number_78 : decode cX4_number 78 = .ok (.getfield 40, 3) := by decide +kernel
theorem dX4_number_81 : decode cX4_number 81 = .ok (.iconst 1, 1) := by decide +kernel
theorem dX4_number_82 : decode cX4_number 82 = .ok (.iadd, 1) := by decide +kernel
theorem dX4_number_83 : decode cX4_number 83 = .ok (.putfield 40, 3) := by decide +kernel
theorem dX4_number_86 : decode cX4_number 86 = .ok (.aload_n 0, 1) := by decide +kernel
theorem dX4_number_87 : decode cX4_number 87 = .ok (.getfield 40, 3) := by decide +kernel
theorem dX4_number_90 : decode cX4_number 90 = .ok (.iconst 1, 1) := by decide +kernel
theorem dX4_number_91 : decode cX4_number 91 = .ok (.isub, 1) := by decide +kernel
theorem dX4_number_92 : decode cX4_number 92 = .ok (.ireturn, 1) := by decide +kernel
theorem dX4_decimal_0 : decode cX4_decimal 0 = .ok (.aload_n 0, 1) := by decide +kernel
theorem dX4_decimal_1 : decode cX4_decimal 1 = .ok (.lload_n 1, 1) := by decide +kernel
theorem dX4_decimal_2 : decode cX4_decimal 2 = .ok (.invokevirtual 50, 3) := by decide +kernel
theorem dX4_decimal_5 : decode cX4_decimal 5 = .ok (.lload_n 1, 1) := by decide +kernel
theorem dX4_decimal_6 : decode cX4_decimal 6 = .ok (.lconst 0, 1) := by decide +kernel
theorem dX4_decimal_7 : decode cX4_decimal 7 = .ok (.lcmp, 1) := by decide +kernel
theorem dX4_decimal_8 : decode cX4_decimal 8 = .ok (.ifCond .ge 9, 3) := by decide +kernel
theorem dX4_decimal_11 : decode cX4_decimal 11 = .ok (.aload_n 0, 1) := by decide +kernel
theorem dX4_decimal_12 : decode cX4_decimal 12 = .ok (.bipush 45, 2) := by decide +kernel
theorem dX4_decimal_14 : decode cX4_decimal 14 = .ok (.invokevirtual 53, 3) := by decide +kernel
theorem dX4_decimal_17 : decode cX4_decimal 17 = .ok (.return_, 1) := by decide +kernel
theorem dX4_digits_0 : decode cX4_digits 0 = .ok (.aload_n 0, 1) := by decide +kernel
theorem dX4_digits_1 : decode cX4_digits 1 = .ok (.bipush 72, 2) := by decide +kernel
theorem dX4_digits_3 : decode cX4_digits 3 = .ok (.putfield 47, 3) := by decide +kernel
theorem dX4_digits_6 : decode cX4_digits 6 = .ok (.lload_n 1, 1) := by decide +kernel
theorem dX4_digits_7 : decode cX4_digits 7 = .ok (.lstore_n 3, 1) := by decide +kernel
theorem dX4_digits_8 : decode cX4_digits 8 = .ok (.lload_n 3, 1) := by decide +kernel
theorem dX4_digits_9 : decode cX4_digits 9 = .ok (.ldc2_w 56, 3) := by decide +kernel
theorem dX4_digits_12 : decode cX4_digits 12 = .ok (.lrem, 1) := by decide +kernel
theorem dX4_digits_13 : decode cX4_digits 13 = .ok (.lstore 5, 2) := by decide +kernel
theorem dX4_digits_15 : decode cX4_digits 15 = .ok (.aload_n 0, 1) := by decide +kernel
theorem dX4_digits_16 : decode cX4_digits 16 = .ok (.bipush 48, 2) := by decide +kernel
theorem dX4_digits_18 : decode cX4_digits 18 = .ok (.lload 5, 2) := by decide +kernel
theorem dX4_digits_20 : decode cX4_digits 20 = .ok (.lconst 0, 1) := by decide +kernel
theorem dX4_digits_21 : decode cX4_digits 21 = .ok (.lcmp, 1) := by decide +kernel
theorem dX4_digits_22 : decode cX4_digits 22 = .ok (.ifCond .ge 9, 3) := by decide +kernel
theorem dX4_digits_25 : decode cX4_digits 25 = .ok (.lload 5, 2) := by decide +kernel
theorem dX4_digits_27 : decode cX4_digits 27 = .ok (.lneg, 1) := by decide +kernel
theorem dX4_digits_28 : decode cX4_digits 28 = .ok (.goto 5, 3) := by decide +kernel
theorem dX4_digits_31 : decode cX4_digits 31 = .ok (.lload 5, 2) := by decide +kernel
theorem dX4_digits_33 : decode cX4_digits 33 = .ok (.l2i, 1) := by decide +kernel
theorem dX4_digits_34 : decode cX4_digits 34 = .ok (.iadd, 1) := by decide +kernel
theorem dX4_digits_35 : decode cX4_digits 35 = .ok (.invokevirtual 53, 3) := by decide +kernel
theorem dX4_digits_38 : decode cX4_digits 38 = .ok (.lload_n 3, 1) := by decide +kernel
theorem dX4_digits_39 : decode cX4_digits 39 = .ok (.ldc2_w 56, 3) := by decide +kernel
theorem dX4_digits_42 : decode cX4_digits 42 = .ok (.ldiv, 1) := by decide +kernel
theorem dX4_digits_43 : decode cX4_digits 43 = .ok (.lstore_n 3, 1) := by decide +kernel
theorem dX4_digits_44 : decode cX4_digits 44 = .ok (.lload_n 3, 1) := by decide +kernel
theorem dX4_digits_45 : decode cX4_digits 45 = .ok (.lconst 0, 1) := by decide +kernel
theorem dX4_digits_46 : decode cX4_digits 46 = .ok (.lcmp, 1) := by decide +kernel
theorem dX4_digits_47 : decode cX4_digits 47 = .ok (.ifCond .ne (-39), 3) := by decide +kernel
theorem dX4_digits_50 : decode cX4_digits 50 = .ok (.return_, 1) := by decide +kernel
theorem dX4_ahead_0 : decode cX4_ahead 0 = .ok (.aload_n 0, 1) := by decide +kernel
theorem dX4_ahead_1 : decode cX4_ahead 1 = .ok (.dup, 1) := by decide +kernel
theorem dX4_ahead_2 : decode cX4_ahead 2 = .ok (.getfield 47, 3) := by decide +kernel
theorem dX4_ahead_5 : decode cX4_ahead 5 = .ok (.iconst 1, 1) := by decide +kernel
theorem dX4_ahead_6 : decode cX4_ahead 6 = .ok (.isub, 1) := by decide +kernel
theorem dX4_ahead_7 : decode cX4_ahead 7 = .ok (.putfield 47, 3) := by decide +kernel
theorem dX4_ahead_10 : decode cX4_ahead 10 = .ok (.aload_n 0, 1) := by decide +kernel
theorem dX4_ahead_11 : decode cX4_ahead 11 = .ok (.getfield 26, 3) := by decide +kernel
theorem dX4_ahead_14 : decode cX4_ahead 14 = .ok (.aload_n 0, 1) := by decide +kernel
theorem dX4_ahead_15 : decode cX4_ahead 15 = .ok (.getfield 47, 3) := by decide +kernel
theorem dX4_ahead_18 : decode cX4_ahead 18 = .ok (.iload_n 1, 1) := by decide +kernel
theorem dX4_ahead_19 : decode cX4_ahead 19 = .ok (.i2b, 1) := by decide +kernel
theorem dX4_ahead_20 : decode cX4_ahead 20 = .ok (.bastore, 1) := by decide +kernel
theorem dX4_ahead_21 : decode cX4_ahead 21 = .ok (.return_, 1) := by decide +kernel
theorem dX4_clear_0 : decode cX4_clear 0 = .ok (.aload_n 0, 1) := by decide +kernel
theorem dX4_clear_1 : decode cX4_clear 1 = .ok (.iconst 0, 1) := by decide +kernel
theorem dX4_clear_2 : decode cX4_clear 2 = .ok (.putfield 40, 3) := by decide +kernel
theorem dX4_clear_5 : decode cX4_clear 5 = .ok (.return_, 1) := by decide +kernel
theorem dX4_make_0 : decode cX4_make 0 = .ok (.aload_n 0, 1) := by decide +kernel
theorem dX4_make_1 : decode cX4_make 1 = .ok (.iconst 0, 1) := by decide +kernel
theorem dX4_make_2 : decode cX4_make 2 = .ok (.putfield 126, 3) := by decide +kernel
theorem dX4_make_5 : decode cX4_make 5 = .ok (.aload_n 0, 1) := by decide +kernel
theorem dX4_make_6 : decode cX4_make 6 = .ok (.iconst 0, 1) := by decide +kernel
theorem dX4_make_7 : decode cX4_make 7 = .ok (.putfield 104, 3) := by decide +kernel
theorem dX4_make_10 : decode cX4_make 10 = .ok (.aload_n 0, 1) := by decide +kernel
theorem dX4_make_11 : decode cX4_make 11 = .ok (.iconst 0, 1) := by decide +kernel
theorem dX4_make_12 : decode cX4_make 12 = .ok (.putfield 77, 3) := by decide +kernel
theorem dX4_make_15 : decode cX4_make 15 = .ok (.iconst 0, 1) := by decide +kernel
theorem dX4_make_16 : decode cX4_make 16 = .ok (.istore_n 1, 1) := by decide +kernel
theorem dX4_make_17 : decode cX4_make 17 = .ok (.iconst 0, 1) := by decide +kernel
theorem dX4_make_18 : decode cX4_make 18 = .ok (.istore_n 2, 1) := by decide +kernel
theorem dX4_make_19 : decode cX4_make 19 = .ok (.aload_n 0, 1) := by decide +kernel
theorem dX4_make_20 : decode cX4_make 20 = .ok (.getfield 77, 3) := by decide +kernel
theorem dX4_make_23 : decode cX4_make 23 = .ok (.aload_n 0, 1) := by decide +kernel
theorem dX4_make_24 : decode cX4_make 24 = .ok (.getfield 37, 3) := by decide +kernel
theorem dX4_make_27 : decode cX4_make 27 = .ok (.if_icmp .ge 104, 3) := by decide +kernel
theorem dX4_make_30 : decode cX4_make 30 = .ok (.iload_n 2, 1) := by decide +kernel
theorem dX4_make_31 : decode cX4_make 31 = .ok (.ifCond .ne 100, 3) := by decide +kernel
theorem dX4_make_34 : decode cX4_make 34 = .ok (.aload_n 0, 1) := by decide +kernel
theorem dX4_make_35 : decode cX4_make 35 = .ok (.getfield 13, 3) := by decide +kernel
theorem dX4_make_38 : decode cX4_make 38 = .ok (.aload_n 0, 1) := by decide +kernel
theorem dX4_make_39 : decode cX4_make 39 = .ok (.getfield 77, 3) := by decide +kernel
theorem dX4_make_42 : decode cX4_make 42 = .ok (.baload, 1) := by decide +kernel
theorem dX4_make_43 : decode cX4_make 43 = .ok (.istore_n 3, 1) := by decide +kernel
theorem dX4_make_44 : decode cX4_make 44 = .ok (.aload_n 0, 1) := by decide +kernel
theorem dX4_make_45 : decode cX4_make 45 = .ok (.dup, 1) := by decide +kernel
theorem dX4_make_46 : decode cX4_make 46 = .ok (.getfield 77, 3) := by decide +kernel
theorem dX4_make_49 : decode cX4_make 49 = .ok (.iconst 1, 1) := by decide +kernel
theorem dX4_make_50 : decode cX4_make 50 = .ok (.iadd, 1) := by decide +kernel
theorem dX4_make_51 : decode cX4_make 51 = .ok (.putfield 77, 3) := by decide +kernel
theorem dX4_make_54 : decode cX4_make 54 = .ok (.iload_n 3, 1) := by decide +kernel
theorem dX4_make_55 : decode cX4_make 55 = .ok (.bipush 37, 2) := by decide +kernel
theorem dX4_make_57 : decode cX4_make 57 = .ok (.if_icmp .eq 21, 3) := by decide +kernel
theorem dX4_make_60 : decode cX4_make 60 = .ok (.aload_n 0, 1) := by decide +kernel
theorem dX4_make_61 : decode cX4_make 61 = .ok (.iload_n 3, 1) := by decide +kernel
theorem dX4_make_62 : decode cX4_make 62 = .ok (.invokevirtual 107, 3) := by decide +kernel
theorem dX4_make_65 : decode cX4_make 65 = .ok (.ifCond .eq 7, 3) := by decide +kernel
theorem dX4_make_68 : decode cX4_make 68 = .ok (.iconst 0, 1) := by decide +kernel
theorem dX4_make_69 : decode cX4_make 69 = .ok (.goto 5, 3) := by decide +kernel
theorem dX4_make_72 : decode cX4_make 72 = .ok (.bipush (-5), 2) := by decide +kernel
theorem dX4_make_74 : decode cX4_make 74 = .ok (.istore_n 2, 1) := by decide +kernel
theorem dX4_make_75 : decode cX4_make 75 = .ok (.goto 53, 3) := by decide +kernel
theorem dX4_make_78 : decode cX4_make 78 = .ok (.aload_n 0, 1) := by decide +kernel
theorem dX4_make_79 : decode cX4_make 79 = .ok (.invokevirtual 129, 3) := by decide +kernel
theorem dX4_make_82 : decode cX4_make 82 = .ok (.ifCond .ne 9, 3) := by decide +kernel
theorem dX4_make_85 : decode cX4_make 85 = .ok (.bipush (-2), 2) := by decide +kernel
theorem dX4_make_87 : decode cX4_make 87 = .ok (.istore_n 2, 1) := by decide +kernel
theorem dX4_make_88 : decode cX4_make 88 = .ok (.goto 40, 3) := by decide +kernel
theorem dX4_make_91 : decode cX4_make 91 = .ok (.aload_n 0, 1) := by decide +kernel
theorem dX4_make_92 : decode cX4_make 92 = .ok (.getfield 101, 3) := by decide +kernel
theorem dX4_make_95 : decode cX4_make 95 = .ok (.bipush 37, 2) := by decide +kernel
theorem dX4_make_97 : decode cX4_make 97 = .ok (.if_icmp .ne 22, 3) := by decide +kernel
theorem dX4_make_100 : decode cX4_make 100 = .ok (.aload_n 0, 1) := by decide +kernel
theorem dX4_make_101 : decode cX4_make 101 = .ok (.bipush 37, 2) := by decide +kernel
theorem dX4_make_103 : decode cX4_make 103 = .ok (.invokevirtual 107, 3) := by decide +kernel
theorem dX4_make_106 : decode cX4_make 106 = .ok (.ifCond .eq 7, 3) := by decide +kernel
theorem dX4_make_109 : decode cX4_make 109 = .ok (.iconst 0, 1) := by decide +kernel
theorem dX4_make_110 : decode cX4_make 110 = .ok (.goto 5, 3) := by decide +kernel
theorem dX4_make_113 : decode cX4_make 113 = .ok (.bipush (-5), 2) := by decide +kernel
theorem dX4_make_115 : decode cX4_make 115 = .ok (.istore_n 2, 1) := by decide +kernel
theorem dX4_make_116 : decode cX4_make 116 = .ok (.goto 12, 3) := by decide +kernel
theorem dX4_make_119 : decode cX4_make 119 = .ok (.aload_n 0, 1) := by decide +kernel
theorem dX4_make_120 : decode cX4_make 120 = .ok (.iload_n 1, 1) := by decide +kernel
theorem dX4_make_121 : decode cX4_make 121 = .ok (.invokevirtual 132, 3) := by decide +kernel
theorem dX4_make_124 : decode cX4_make 124 = .ok (.istore_n 2, 1) := by decide +kernel
theorem dX4_make_125 : decode cX4_make 125 = .ok (.iinc 1 1, 3) := by decide +kernel
theorem dX4_make_128 : decode cX4_make 128 = .ok (.goto (-109), 3) := by decide +kernel
theorem dX4_make_131 : decode cX4_make 131 = .ok (.aload_n 0, 1) := by decide +kernel
theorem dX4_make_132 : decode cX4_make 132 = .ok (.iload_n 2, 1) := by decide +kernel
theorem dX4_make_133 : decode cX4_make 133 = .ok (.ifCond .ne 10, 3) := by decide +kernel
theorem dX4_make_136 : decode cX4_make 136 = .ok (.aload_n 0, 1) := by decide +kernel
theorem dX4_make_137 : decode cX4_make 137 = .ok (.getfield 104, 3) := by decide +kernel
theorem dX4_make_140 : decode cX4_make 140 = .ok (.goto 4, 3) := by decide +kernel
theorem dX4_make_143 : decode cX4_make 143 = .ok (.iconst 0, 1) := by decide +kernel
theorem dX4_make_144 : decode cX4_make 144 = .ok (.putfield 126, 3) := by decide +kernel
theorem dX4_make_147 : decode cX4_make 147 = .ok (.iload_n 2, 1) := by decide +kernel
theorem dX4_make_148 : decode cX4_make 148 = .ok (.ifCond .ne 10, 3) := by decide +kernel
theorem dX4_make_151 : decode cX4_make 151 = .ok (.aload_n 0, 1) := by decide +kernel
theorem dX4_make_152 : decode cX4_make 152 = .ok (.getfield 104, 3) := by decide +kernel
theorem dX4_make_155 : decode cX4_make 155 = .ok (.goto 4, 3) := by decide +kernel
theorem dX4_make_158 : decode cX4_make 158 = .ok (.iload_n 2, 1) := by decide +kernel
theorem dX4_make_159 : decode cX4_make 159 = .ok (.ireturn, 1) := by decide +kernel
theorem dX4_put_0 : decode cX4_put 0 = .ok (.aload_n 0, 1) := by decide +kernel
theorem dX4_put_1 : decode cX4_put 1 = .ok (.getfield 104, 3) := by decide +kernel
theorem dX4_put_4 : decode cX4_put 4 = .ok (.sipush 1024, 3) := by decide +kernel
theorem dX4_put_7 : decode cX4_put 7 = .ok (.if_icmp .ne 5, 3) := by decide +kernel
theorem dX4_put_10 : decode cX4_put 10 = .ok (.iconst 0, 1) := by decide +kernel
theorem dX4_put_11 : decode cX4_put 11 = .ok (.ireturn, 1) := by decide +kernel
theorem dX4_put_12 : decode cX4_put 12 = .ok (.aload_n 0, 1) := by decide +kernel
theorem dX4_put_13 : decode cX4_put 13 = .ok (.getfield 19, 3) := by decide +kernel
theorem dX4_put_16 : decode cX4_put 16 = .ok (.aload_n 0, 1) := by decide +kernel
theorem dX4_put_17 : decode cX4_put 17 = .ok (.getfield 104, 3) := by decide +kernel
theorem dX4_put_20 : decode cX4_put 20 = .ok (.iload_n 1, 1) := by decide +kernel
theorem dX4_put_21 : decode cX4_put 21 = .ok (.i2b, 1) := by decide +kernel
theorem dX4_put_22 : decode cX4_put 22 = .ok (.bastore, 1) := by decide +kernel
theorem dX4_put_23 : decode cX4_put 23 = .ok (.aload_n 0, 1) := by decide +kernel
theorem dX4_put_24 : decode cX4_put 24 = .ok (.dup, 1) := by decide +kernel
theorem dX4_put_25 : decode cX4_put 25 = .ok (.getfield 104, 3) := by decide +kernel
theorem dX4_put_28 : decode cX4_put 28 = .ok (.iconst 1, 1) := by decide +kernel
theorem dX4_put_29 : decode cX4_put 29 = .ok (.iadd, 1) := by decide +kernel
theorem dX4_put_30 : decode cX4_put 30 = .ok (.putfield 104, 3) := by decide +kernel
theorem dX4_put_33 : decode cX4_put 33 = .ok (.iconst 1, 1) := by decide +kernel
theorem dX4_put_34 : decode cX4_put 34 = .ok (.ireturn, 1) := by decide +kernel
theorem dX4_readPlace_0 : decode cX4_readPlace 0 = .ok (.aload_n 0, 1) := by decide +kernel
theorem dX4_readPlace_1 : decode cX4_readPlace 1 = .ok (.iconst 0, 1) := by decide +kernel
theorem dX4_readPlace_2 : decode cX4_readPlace 2 = .ok (.putfield 80, 3) := by decide +kernel
theorem dX4_readPlace_5 : decode cX4_readPlace 5 = .ok (.aload_n 0, 1) := by decide +kernel
theorem dX4_readPlace_6 : decode cX4_readPlace 6 = .ok (.iconst 0, 1) := by decide +kernel
theorem dX4_readPlace_7 : decode cX4_readPlace 7 = .ok (.putfield 84, 3) := by decide +kernel
theorem dX4_readPlace_10 : decode cX4_readPlace 10 = .ok (.aload_n 0, 1) := by decide +kernel
theorem dX4_readPlace_11 : decode cX4_readPlace 11 = .ok (.iconst 0, 1) := by decide +kernel
theorem dX4_readPlace_12 : decode cX4_readPlace 12 = .ok (.putfield 87, 3) := by decide +kernel
theorem dX4_readPlace_15 : decode cX4_readPlace 15 = .ok (.aload_n 0, 1) := by decide +kernel
theorem dX4_readPlace_16 : decode cX4_readPlace 16 = .ok (.iconst 0, 1) := by decide +kernel
theorem dX4_readPlace_17 : decode cX4_readPlace 17 = .ok (.putfield 90, 3) := by decide +kernel
theorem dX4_readPlace_20 : decode cX4_readPlace 20 = .ok (.aload_n 0, 1) := by decide +kernel
theorem dX4_readPlace_21 : decode cX4_readPlace 21 = .ok (.iconst 0, 1) := by decide +kernel
theorem dX4_readPlace_22 : decode cX4_readPlace 22 = .ok (.putfield 93, 3) := by decide +kernel
theorem dX4_readPlace_25 : decode cX4_readPlace 25 = .ok (.aload_n 0, 1) := by decide +kernel
theorem dX4_readPlace_26 : decode cX4_readPlace 26 = .ok (.invokevirtual 96, 3) := by decide +kernel
theorem dX4_readPlace_29 : decode cX4_readPlace 29 = .ok (.ifCond .eq 16, 3) := by decide +kernel
theorem dX4_readPlace_32 : decode cX4_readPlace 32 = .ok (.aload_n 0, 1) := by decide +kernel
theorem dX4_readPlace_33 : decode cX4_readPlace 33 = .ok (.dup, 1) := by decide +kernel
theorem dX4_readPlace_34 : decode cX4_readPlace 34 = .ok (.getfield 77, 3) := by decide +kernel
theorem dX4_readPlace_37 : decode cX4_readPlace 37 = .ok (.iconst 1, 1) := by decide +kernel
theorem dX4_readPlace_38 : decode cX4_readPlace 38 = .ok (.iadd, 1) := by decide +kernel
theorem dX4_readPlace_39 : decode cX4_readPlace 39 = .ok (.putfield 77, 3) := by decide +kernel
theorem dX4_readPlace_42 : decode cX4_readPlace 42 = .ok (.goto (-17), 3) := by decide +kernel
theorem dX4_readPlace_45 : decode cX4_readPlace 45 = .ok (.aload_n 0, 1) := by decide +kernel
theorem dX4_readPlace_46 : decode cX4_readPlace 46 = .ok (.getfield 77, 3) := by decide +kernel
theorem dX4_readPlace_49 : decode cX4_readPlace 49 = .ok (.aload_n 0, 1) := by decide +kernel
theorem dX4_readPlace_50 : decode cX4_readPlace 50 = .ok (.getfield 37, 3) := by decide +kernel
theorem dX4_readPlace_53 : decode cX4_readPlace 53 = .ok (.if_icmp .ge 90, 3) := by decide +kernel
theorem dX4_readPlace_56 : decode cX4_readPlace 56 = .ok (.aload_n 0, 1) := by decide +kernel
theorem dX4_readPlace_57 : decode cX4_readPlace 57 = .ok (.getfield 13, 3) := by decide +kernel
theorem dX4_readPlace_60 : decode cX4_readPlace 60 = .ok (.aload_n 0, 1) := by decide +kernel
theorem dX4_readPlace_61 : decode cX4_readPlace 61 = .ok (.getfield 77, 3) := by decide +kernel
theorem dX4_readPlace_64 : decode cX4_readPlace 64 = .ok (.baload, 1) := by decide +kernel
theorem dX4_readPlace_65 : decode cX4_readPlace 65 = .ok (.bipush 48, 2) := by decide +kernel
theorem dX4_readPlace_67 : decode cX4_readPlace 67 = .ok (.if_icmp .lt 76, 3) := by decide +kernel
theorem dX4_readPlace_70 : decode cX4_readPlace 70 = .ok (.aload_n 0, 1) := by decide +kernel
theorem dX4_readPlace_71 : decode cX4_readPlace 71 = .ok (.getfield 13, 3) := by decide +kernel
theorem dX4_readPlace_74 : decode cX4_readPlace 74 = .ok (.aload_n 0, 1) := by decide +kernel
theorem dX4_readPlace_75 : decode cX4_readPlace 75 = .ok (.getfield 77, 3) := by decide +kernel
theorem dX4_readPlace_78 : decode cX4_readPlace 78 = .ok (.baload, 1) := by decide +kernel
theorem dX4_readPlace_79 : decode cX4_readPlace 79 = .ok (.bipush 57, 2) := by decide +kernel
theorem dX4_readPlace_81 : decode cX4_readPlace 81 = .ok (.if_icmp .gt 62, 3) := by decide +kernel
theorem dX4_readPlace_84 : decode cX4_readPlace 84 = .ok (.aload_n 0, 1) := by decide +kernel
theorem dX4_readPlace_85 : decode cX4_readPlace 85 = .ok (.bipush 10, 2) := by decide +kernel
theorem dX4_readPlace_87 : decode cX4_readPlace 87 = .ok (.aload_n 0, 1) := by decide +kernel
theorem dX4_readPlace_88 : decode cX4_readPlace 88 = .ok (.getfield 93, 3) := by decide +kernel
theorem dX4_readPlace_91 : decode cX4_readPlace 91 = .ok (.imul, 1) := by decide +kernel
theorem dX4_readPlace_92 : decode cX4_readPlace 92 = .ok (.aload_n 0, 1) := by decide +kernel
theorem dX4_readPlace_93 : decode cX4_readPlace 93 = .ok (.getfield 13, 3) := by decide +kernel
theorem dX4_readPlace_96 : decode cX4_readPlace 96 = .ok (.aload_n 0, 1) := by decide +kernel
theorem dX4_readPlace_97 : decode cX4_readPlace 97 = .ok (.getfield 77, 3) := by decide +kernel
theorem dX4_readPlace_100 : decode cX4_readPlace 100 = .ok (.baload, 1) := by decide +kernel
theorem dX4_readPlace_101 : decode cX4_readPlace 101 = .ok (.iadd, 1) := by decide +kernel
theorem dX4_readPlace_102 : decode cX4_readPlace 102 = .ok (.bipush 48, 2) := by decide +kernel
theorem dX4_readPlace_104 : decode cX4_readPlace 104 = .ok (.isub, 1) := by decide +kernel
theorem dX4_readPlace_105 : decode cX4_readPlace 105 = .ok (.putfield 93, 3) := by decide +kernel
theorem dX4_readPlace_108 : decode cX4_readPlace 108 = .ok (.aload_n 0, 1) := by decide +kernel
theorem dX4_readPlace_109 : decode cX4_readPlace 109 = .ok (.aload_n 0, 1) := by decide +kernel
theorem dX4_readPlace_110 : decode cX4_readPlace 110 = .ok (.getfield 93, 3) := by decide +kernel
theorem dX4_readPlace_113 : decode cX4_readPlace 113 = .ok (.ldc 100, 2) := by decide +kernel
theorem dX4_readPlace_115 : decode cX4_readPlace 115 = .ok (.if_icmp .le 8, 3) := by decide +kernel
theorem dX4_readPlace_118 : decode cX4_readPlace 118 = .ok (.ldc 100, 2) := by decide +kernel
theorem dX4_readPlace_120 : decode cX4_readPlace 120 = .ok (.goto 7, 3) := by decide +kernel
theorem dX4_readPlace_123 : decode cX4_readPlace 123 = .ok (.aload_n 0, 1) := by decide +kernel
theorem dX4_readPlace_124 : decode cX4_readPlace 124 = .ok (.getfield 93, 3) := by decide +kernel
theorem dX4_readPlace_127 : decode cX4_readPlace 127 = .ok (.putfield 93, 3) := by decide +kernel
theorem dX4_readPlace_130 : decode cX4_readPlace 130 = .ok (.aload_n 0, 1) := by decide +kernel
theorem dX4_readPlace_131 : decode cX4_readPlace 131 = .ok (.dup, 1) := by decide +kernel
theorem dX4_readPlace_132 : decode cX4_readPlace 132 = .ok (.getfield 77, 3) := by decide +kernel
theorem dX4_readPlace_135 : decode cX4_readPlace 135 = .ok (.iconst 1, 1) := by decide +kernel
theorem dX4_readPlace_136 : decode cX4_readPlace 136 = .ok (.iadd, 1) := by decide +kernel
theorem dX4_readPlace_137 : decode cX4_readPlace 137 = .ok (.putfield 77, 3) := by decide +kernel
theorem dX4_readPlace_140 : decode cX4_readPlace 140 = .ok (.goto (-95), 3) := by decide +kernel
theorem dX4_readPlace_143 : decode cX4_readPlace 143 = .ok (.aload_n 0, 1) := by decide +kernel
theorem dX4_readPlace_144 : decode cX4_readPlace 144 = .ok (.aload_n 0, 1) := by decide +kernel
theorem dX4_readPlace_145 : decode cX4_readPlace 145 = .ok (.getfield 77, 3) := by decide +kernel
theorem dX4_readPlace_148 : decode cX4_readPlace 148 = .ok (.aload_n 0, 1) := by decide +kernel
theorem dX4_readPlace_149 : decode cX4_readPlace 149 = .ok (.getfield 37, 3) := by decide +kernel
theorem dX4_readPlace_152 : decode cX4_readPlace 152 = .ok (.if_icmp .ge 15, 3) := by decide +kernel
theorem dX4_readPlace_155 : decode cX4_readPlace 155 = .ok (.aload_n 0, 1) := by decide +kernel
theorem dX4_readPlace_156 : decode cX4_readPlace 156 = .ok (.getfield 13, 3) := by decide +kernel
theorem dX4_readPlace_159 : decode cX4_readPlace 159 = .ok (.aload_n 0, 1) := by decide +kernel
theorem dX4_readPlace_160 : decode cX4_readPlace 160 = .ok (.getfield 77, 3) := by decide +kernel
theorem dX4_readPlace_163 : decode cX4_readPlace 163 = .ok (.baload, 1) := by decide +kernel
theorem dX4_readPlace_164 : decode cX4_readPlace 164 = .ok (.goto 4, 3) := by decide +kernel
theorem dX4_readPlace_167 : decode cX4_readPlace 167 = .ok (.iconst 0, 1) := by decide +kernel
theorem dX4_readPlace_168 : decode cX4_readPlace 168 = .ok (.putfield 101, 3) := by decide +kernel
theorem dX4_readPlace_171 : decode cX4_readPlace 171 = .ok (.aload_n 0, 1) := by decide +kernel
theorem dX4_readPlace_172 : decode cX4_readPlace 172 = .ok (.dup, 1) := by decide +kernel
theorem dX4_readPlace_173 : decode cX4_readPlace 173 = .ok (.getfield 77, 3) := by decide +kernel
theorem dX4_readPlace_176 : decode cX4_readPlace 176 = .ok (.iconst 1, 1) := by decide +kernel
theorem dX4_readPlace_177 : decode cX4_readPlace 177 = .ok (.iadd, 1) := by decide +kernel
theorem dX4_readPlace_178 : decode cX4_readPlace 178 = .ok (.putfield 77, 3) := by decide +kernel
theorem dX4_readPlace_181 : decode cX4_readPlace 181 = .ok (.aload_n 0, 1) := by decide +kernel
theorem dX4_readPlace_182 : decode cX4_readPlace 182 = .ok (.getfield 101, 3) := by decide +kernel
theorem dX4_readPlace_185 : decode cX4_readPlace 185 = .ok (.bipush 100, 2) := by decide +kernel
theorem dX4_readPlace_187 : decode cX4_readPlace 187 = .ok (.if_icmp .eq 57, 3) := by decide +kernel
theorem dX4_readPlace_190 : decode cX4_readPlace 190 = .ok (.aload_n 0, 1) := by decide +kernel
theorem dX4_readPlace_191 : decode cX4_readPlace 191 = .ok (.getfield 101, 3) := by decide +kernel
theorem dX4_readPlace_194 : decode cX4_readPlace 194 = .ok (.bipush 120, 2) := by decide +kernel
theorem dX4_readPlace_196 : decode cX4_readPlace 196 = .ok (.if_icmp .eq 48, 3) := by decide +kernel
theorem dX4_readPlace_199 : decode cX4_readPlace 199 = .ok (.aload_n 0, 1) := by decide +kernel
theorem dX4_readPlace_200 : decode cX4_readPlace 200 = .ok (.getfield 101, 3) := by decide +kernel
theorem dX4_readPlace_203 : decode cX4_readPlace 203 = .ok (.bipush 88, 2) := by decide +kernel
theorem dX4_readPlace_205 : decode cX4_readPlace 205 = .ok (.if_icmp .eq 39, 3) := by decide +kernel
theorem dX4_readPlace_208 : decode cX4_readPlace 208 = .ok (.aload_n 0, 1) := by decide +kernel
theorem dX4_readPlace_209 : decode cX4_readPlace 209 = .ok (.getfield 101, 3) := by decide +kernel
theorem dX4_readPlace_212 : decode cX4_readPlace 212 = .ok (.bipush 111, 2) := by decide +kernel
theorem dX4_readPlace_214 : decode cX4_readPlace 214 = .ok (.if_icmp .eq 30, 3) := by decide +kernel
theorem dX4_readPlace_217 : decode cX4_readPlace 217 = .ok (.aload_n 0, 1) := by decide +kernel
theorem dX4_readPlace_218 : decode cX4_readPlace 218 = .ok (.getfield 101, 3) := by decide +kernel
theorem dX4_readPlace_221 : decode cX4_readPlace 221 = .ok (.bipush 99, 2) := by decide +kernel
theorem dX4_readPlace_223 : decode cX4_readPlace 223 = .ok (.if_icmp .eq 21, 3) := by decide +kernel
theorem dX4_readPlace_226 : decode cX4_readPlace 226 = .ok (.aload_n 0, 1) := by decide +kernel
theorem dX4_readPlace_227 : decode cX4_readPlace 227 = .ok (.getfield 101, 3) := by decide +kernel
theorem dX4_readPlace_230 : decode cX4_readPlace 230 = .ok (.bipush 115, 2) := by decide +kernel
theorem dX4_readPlace_232 : decode cX4_readPlace 232 = .ok (.if_icmp .eq 12, 3) := by decide +kernel
theorem dX4_readPlace_235 : decode cX4_readPlace 235 = .ok (.aload_n 0, 1) := by decide +kernel
theorem dX4_readPlace_236 : decode cX4_readPlace 236 = .ok (.getfield 101, 3) := by decide +kernel
theorem dX4_readPlace_239 : decode cX4_readPlace 239 = .ok (.bipush 37, 2) := by decide +kernel
theorem dX4_readPlace_241 : decode cX4_readPlace 241 = .ok (.if_icmp .ne 7, 3) := by decide +kernel
theorem dX4_readPlace_244 : decode cX4_readPlace 244 = .ok (.iconst 1, 1) := by decide +kernel
theorem dX4_readPlace_245 : decode cX4_readPlace 245 = .ok (.goto 4, 3) := by decide +kernel
theorem dX4_readPlace_248 : decode cX4_readPlace 248 = .ok (.iconst 0, 1) := by decide +kernel
theorem dX4_readPlace_249 : decode cX4_readPlace 249 = .ok (.ireturn, 1) := by decide +kernel
theorem dX4_flag_0 : decode cX4_flag 0 = .ok (.aload_n 0, 1) := by decide +kernel
theorem dX4_flag_1 : decode cX4_flag 1 = .ok (.getfield 77, 3) := by decide +kernel
theorem dX4_flag_4 : decode cX4_flag 4 = .ok (.aload_n 0, 1) := by decide +kernel
theorem dX4_flag_5 : decode cX4_flag 5 = .ok (.getfield 37, 3) := by decide +kernel
theorem dX4_flag_8 : decode cX4_flag 8 = .ok (.if_icmp .ge 15, 3) := by decide +kernel
theorem dX4_flag_11 : decode cX4_flag 11 = .ok (.aload_n 0, 1) := by decide +kernel
theorem dX4_flag_12 : decode cX4_flag 12 = .ok (.getfield 13, 3) := by decide +kernel
theorem dX4_flag_15 : decode cX4_flag 15 = .ok (.aload_n 0, 1) := by decide +kernel
theorem dX4_flag_16 : decode cX4_flag 16 = .ok (.getfield 77, 3) := by decide +kernel
theorem dX4_flag_19 : decode cX4_flag 19 = .ok (.baload, 1) := by decide +kernel
theorem dX4_flag_20 : decode cX4_flag 20 = .ok (.goto 4, 3) := by decide +kernel
theorem dX4_flag_23 : decode cX4_flag 23 = .ok (.iconst (-1), 1) := by decide +kernel
theorem dX4_flag_24 : decode cX4_flag 24 = .ok (.istore_n 1, 1) := by decide +kernel
theorem dX4_flag_25 : decode cX4_flag 25 = .ok (.aload_n 0, 1) := by decide +kernel
theorem dX4_flag_26 : decode cX4_flag 26 = .ok (.aload_n 0, 1) := by decide +kernel
theorem dX4_flag_27 : decode cX4_flag 27 = .ok (.getfield 80, 3) := by decide +kernel
theorem dX4_flag_30 : decode cX4_flag 30 = .ok (.ifCond .ne 9, 3) := by decide +kernel
theorem dX4_flag_33 : decode cX4_flag 33 = .ok (.iload_n 1, 1) := by decide +kernel
theorem dX4_flag_34 : decode cX4_flag 34 = .ok (.bipush 45, 2) := by decide +kernel
theorem dX4_flag_36 : decode cX4_flag 36 = .ok (.if_icmp .ne 7, 3) := by decide +kernel
theorem dX4_flag_39 : decode cX4_flag 39 = .ok (.iconst 1, 1) := by decide +kernel
theorem dX4_flag_40 : decode cX4_flag 40 = .ok (.goto 4, 3) := by decide +kernel
theorem dX4_flag_43 : decode cX4_flag 43 = .ok (.iconst 0, 1) := by decide +kernel
theorem dX4_flag_44 : decode cX4_flag 44 = .ok (.putfield 80, 3) := by decide +kernel
theorem dX4_flag_47 : decode cX4_flag 47 = .ok (.aload_n 0, 1) := by decide +kernel
theorem dX4_flag_48 : decode cX4_flag 48 = .ok (.aload_n 0, 1) := by decide +kernel
theorem dX4_flag_49 : decode cX4_flag 49 = .ok (.getfield 84, 3) := by decide +kernel
theorem dX4_flag_52 : decode cX4_flag 52 = .ok (.ifCond .ne 9, 3) := by decide +kernel
theorem dX4_flag_55 : decode cX4_flag 55 = .ok (.iload_n 1, 1) := by decide +kernel
theorem dX4_flag_56 : decode cX4_flag 56 = .ok (.bipush 48, 2) := by decide +kernel
theorem dX4_flag_58 : decode cX4_flag 58 = .ok (.if_icmp .ne 7, 3) := by decide +kernel
theorem dX4_flag_61 : decode cX4_flag 61 = .ok (.iconst 1, 1) := by decide +kernel
theorem dX4_flag_62 : decode cX4_flag 62 = .ok (.goto 4, 3) := by decide +kernel
theorem dX4_flag_65 : decode cX4_flag 65 = .ok (.iconst 0, 1) := by decide +kernel
theorem dX4_flag_66 : decode cX4_flag 66 = .ok (.putfield 84, 3) := by decide +kernel
theorem dX4_flag_69 : decode cX4_flag 69 = .ok (.aload_n 0, 1) := by decide +kernel
theorem dX4_flag_70 : decode cX4_flag 70 = .ok (.aload_n 0, 1) := by decide +kernel
theorem dX4_flag_71 : decode cX4_flag 71 = .ok (.getfield 87, 3) := by decide +kernel
theorem dX4_flag_74 : decode cX4_flag 74 = .ok (.ifCond .ne 9, 3) := by decide +kernel
theorem dX4_flag_77 : decode cX4_flag 77 = .ok (.iload_n 1, 1) := by decide +kernel
theorem dX4_flag_78 : decode cX4_flag 78 = .ok (.bipush 43, 2) := by decide +kernel
theorem dX4_flag_80 : decode cX4_flag 80 = .ok (.if_icmp .ne 7, 3) := by decide +kernel
theorem dX4_flag_83 : decode cX4_flag 83 = .ok (.iconst 1, 1) := by decide +kernel
theorem dX4_flag_84 : decode cX4_flag 84 = .ok (.goto 4, 3) := by decide +kernel
theorem dX4_flag_87 : decode cX4_flag 87 = .ok (.iconst 0, 1) := by decide +kernel
theorem dX4_flag_88 : decode cX4_flag 88 = .ok (.putfield 87, 3) := by decide +kernel
theorem dX4_flag_91 : decode cX4_flag 91 = .ok (.aload_n 0, 1) := by decide +kernel
theorem dX4_flag_92 : decode cX4_flag 92 = .ok (.aload_n 0, 1) := by decide +kernel
theorem dX4_flag_93 : decode cX4_flag 93 = .ok (.getfield 90, 3) := by decide +kernel
theorem dX4_flag_96 : decode cX4_flag 96 = .ok (.ifCond .ne 9, 3) := by decide +kernel
theorem dX4_flag_99 : decode cX4_flag 99 = .ok (.iload_n 1, 1) := by decide +kernel
theorem dX4_flag_100 : decode cX4_flag 100 = .ok (.bipush 32, 2) := by decide +kernel
theorem dX4_flag_102 : decode cX4_flag 102 = .ok (.if_icmp .ne 7, 3) := by decide +kernel
theorem dX4_flag_105 : decode cX4_flag 105 = .ok (.iconst 1, 1) := by decide +kernel
theorem dX4_flag_106 : decode cX4_flag 106 = .ok (.goto 4, 3) := by decide +kernel
theorem dX4_flag_109 : decode cX4_flag 109 = .ok (.iconst 0, 1) := by decide +kernel
theorem dX4_flag_110 : decode cX4_flag 110 = .ok (.putfield 90, 3) := by decide +kernel
theorem dX4_flag_113 : decode cX4_flag 113 = .ok (.iload_n 1, 1) := by decide +kernel
theorem dX4_flag_114 : decode cX4_flag 114 = .ok (.bipush 45, 2) := by decide +kernel
theorem dX4_flag_116 : decode cX4_flag 116 = .ok (.if_icmp .eq 21, 3) := by decide +kernel
theorem dX4_flag_119 : decode cX4_flag 119 = .ok (.iload_n 1, 1) := by decide +kernel
theorem dX4_flag_120 : decode cX4_flag 120 = .ok (.bipush 48, 2) := by decide +kernel
theorem dX4_flag_122 : decode cX4_flag 122 = .ok (.if_icmp .eq 15, 3) := by decide +kernel
theorem dX4_flag_125 : decode cX4_flag 125 = .ok (.iload_n 1, 1) := by decide +kernel
theorem dX4_flag_126 : decode cX4_flag 126 = .ok (.bipush 43, 2) := by decide +kernel
theorem dX4_flag_128 : decode cX4_flag 128 = .ok (.if_icmp .eq 9, 3) := by decide +kernel
theorem dX4_flag_131 : decode cX4_flag 131 = .ok (.iload_n 1, 1) := by decide +kernel
theorem dX4_flag_132 : decode cX4_flag 132 = .ok (.bipush 32, 2) := by decide +kernel
theorem dX4_flag_134 : decode cX4_flag 134 = .ok (.if_icmp .ne 7, 3) := by decide +kernel
theorem dX4_flag_137 : decode cX4_flag 137 = .ok (.iconst 1, 1) := by decide +kernel
theorem dX4_flag_138 : decode cX4_flag 138 = .ok (.goto 4, 3) := by decide +kernel
theorem dX4_flag_141 : decode cX4_flag 141 = .ok (.iconst 0, 1) := by decide +kernel
theorem dX4_flag_142 : decode cX4_flag 142 = .ok (.ireturn, 1) := by decide +kernel
theorem dX4_filled_0 : decode cX4_filled 0 = .ok (.iload_n 1, 1) := by decide +kernel
theorem dX4_filled_1 : decode cX4_filled 1 = .ok (.aload_n 0, 1) := by decide +kernel
theorem dX4_filled_2 : decode cX4_filled 2 = .ok (.getfield 40, 3) := by decide +kernel
theorem dX4_filled_5 : decode cX4_filled 5 = .ok (.if_icmp .lt 6, 3) := by decide +kernel
theorem dX4_filled_8 : decode cX4_filled 8 = .ok (.bipush (-3), 2) := by decide +kernel
theorem dX4_filled_10 : decode cX4_filled 10 = .ok (.ireturn, 1) := by decide +kernel
theorem dX4_filled_11 : decode cX4_filled 11 = .ok (.aload_n 0, 1) := by decide +kernel
theorem dX4_filled_12 : decode cX4_filled 12 = .ok (.getfield 101, 3) := by decide +kernel
theorem dX4_filled_15 : decode cX4_filled 15 = .ok (.bipush 115, 2) := by decide +kernel
theorem dX4_filled_17 : decode cX4_filled 17 = .ok (.if_icmp .ne 32, 3) := by decide +kernel
theorem dX4_filled_20 : decode cX4_filled 20 = .ok (.aload_n 0, 1) := by decide +kernel
theorem dX4_filled_21 : decode cX4_filled 21 = .ok (.aload_n 0, 1) := by decide +kernel
theorem dX4_filled_22 : decode cX4_filled 22 = .ok (.getfield 16, 3) := by decide +kernel
theorem dX4_filled_25 : decode cX4_filled 25 = .ok (.bipush 40, 2) := by decide +kernel
theorem dX4_filled_27 : decode cX4_filled 27 = .ok (.iload_n 1, 1) := by decide +kernel
theorem dX4_filled_28 : decode cX4_filled 28 = .ok (.imul, 1) := by decide +kernel
theorem dX4_filled_29 : decode cX4_filled 29 = .ok (.aload_n 0, 1) := by decide +kernel
theorem dX4_filled_30 : decode cX4_filled 30 = .ok (.getfield 22, 3) := by decide +kernel
theorem dX4_filled_33 : decode cX4_filled 33 = .ok (.iload_n 1, 1) := by decide +kernel
theorem dX4_filled_34 : decode cX4_filled 34 = .ok (.iaload, 1) := by decide +kernel
theorem dX4_filled_35 : decode cX4_filled 35 = .ok (.iconst 0, 1) := by decide +kernel
theorem dX4_filled_36 : decode cX4_filled 36 = .ok (.invokevirtual 115, 3) := by decide +kernel
theorem dX4_filled_39 : decode cX4_filled 39 = .ok (.ifCond .eq 7, 3) := by decide +kernel
theorem dX4_filled_42 : decode cX4_filled 42 = .ok (.iconst 0, 1) := by decide +kernel
theorem dX4_filled_43 : decode cX4_filled 43 = .ok (.goto 5, 3) := by decide +kernel
theorem dX4_filled_46 : decode cX4_filled 46 = .ok (.bipush (-5), 2) := by decide +kernel
theorem dX4_filled_48 : decode cX4_filled 48 = .ok (.ireturn, 1) := by decide +kernel
theorem dX4_filled_49 : decode cX4_filled 49 = .ok (.aload_n 0, 1) := by decide +kernel
theorem dX4_filled_50 : decode cX4_filled 50 = .ok (.iload_n 1, 1) := by decide +kernel
theorem dX4_filled_51 : decode cX4_filled 51 = .ok (.invokevirtual 119, 3) := by decide +kernel
theorem dX4_filled_54 : decode cX4_filled 54 = .ok (.ifCond .ne 6, 3) := by decide +kernel
theorem dX4_filled_57 : decode cX4_filled 57 = .ok (.bipush (-4), 2) := by decide +kernel
theorem dX4_filled_59 : decode cX4_filled 59 = .ok (.ireturn, 1) := by decide +kernel
theorem dX4_filled_60 : decode cX4_filled 60 = .ok (.iconst 0, 1) := by decide +kernel
theorem dX4_filled_61 : decode cX4_filled 61 = .ok (.istore_n 2, 1) := by decide +kernel
theorem dX4_filled_62 : decode cX4_filled 62 = .ok (.aload_n 0, 1) := by decide +kernel
theorem dX4_filled_63 : decode cX4_filled 63 = .ok (.getfield 101, 3) := by decide +kernel
theorem dX4_filled_66 : decode cX4_filled 66 = .ok (.bipush 100, 2) := by decide +kernel
theorem dX4_filled_68 : decode cX4_filled 68 = .ok (.if_icmp .ne 54, 3) := by decide +kernel
theorem dX4_filled_71 : decode cX4_filled 71 = .ok (.aload_n 0, 1) := by decide +kernel
theorem dX4_filled_72 : decode cX4_filled 72 = .ok (.aload_n 0, 1) := by decide +kernel
theorem dX4_filled_73 : decode cX4_filled 73 = .ok (.getfield 62, 3) := by decide +kernel
theorem dX4_filled_76 : decode cX4_filled 76 = .ok (.invokevirtual 50, 3) := by decide +kernel
theorem dX4_filled_79 : decode cX4_filled 79 = .ok (.aload_n 0, 1) := by decide +kernel
theorem dX4_filled_80 : decode cX4_filled 80 = .ok (.getfield 62, 3) := by decide +kernel
theorem dX4_filled_83 : decode cX4_filled 83 = .ok (.lconst 0, 1) := by decide +kernel
theorem dX4_filled_84 : decode cX4_filled 84 = .ok (.lcmp, 1) := by decide +kernel
theorem dX4_filled_85 : decode cX4_filled 85 = .ok (.ifCond .ge 8, 3) := by decide +kernel
theorem dX4_filled_88 : decode cX4_filled 88 = .ok (.bipush 45, 2) := by decide +kernel
theorem dX4_filled_90 : decode cX4_filled 90 = .ok (.goto 28, 3) := by decide +kernel
theorem dX4_filled_93 : decode cX4_filled 93 = .ok (.aload_n 0, 1) := by decide +kernel
theorem dX4_filled_94 : decode cX4_filled 94 = .ok (.getfield 87, 3) := by decide +kernel
theorem dX4_filled_97 : decode cX4_filled 97 = .ok (.ifCond .eq 8, 3) := by decide +kernel
theorem dX4_filled_100 : decode cX4_filled 100 = .ok (.bipush 43, 2) := by decide +kernel
theorem dX4_filled_102 : decode cX4_filled 102 = .ok (.goto 16, 3) := by decide +kernel
theorem dX4_filled_105 : decode cX4_filled 105 = .ok (.aload_n 0, 1) := by decide +kernel
theorem dX4_filled_106 : decode cX4_filled 106 = .ok (.getfield 90, 3) := by decide +kernel
theorem dX4_filled_109 : decode cX4_filled 109 = .ok (.ifCond .eq 8, 3) := by decide +kernel
theorem dX4_filled_112 : decode cX4_filled 112 = .ok (.bipush 32, 2) := by decide +kernel
theorem dX4_filled_114 : decode cX4_filled 114 = .ok (.goto 4, 3) := by decide +kernel
theorem dX4_filled_117 : decode cX4_filled 117 = .ok (.iconst 0, 1) := by decide +kernel
theorem dX4_filled_118 : decode cX4_filled 118 = .ok (.istore_n 2, 1) := by decide +kernel
theorem dX4_filled_119 : decode cX4_filled 119 = .ok (.goto 68, 3) := by decide +kernel
theorem dX4_filled_122 : decode cX4_filled 122 = .ok (.aload_n 0, 1) := by decide +kernel
theorem dX4_filled_123 : decode cX4_filled 123 = .ok (.getfield 101, 3) := by decide +kernel
theorem dX4_filled_126 : decode cX4_filled 126 = .ok (.bipush 99, 2) := by decide +kernel
theorem dX4_filled_128 : decode cX4_filled 128 = .ok (.if_icmp .ne 21, 3) := by decide +kernel
theorem dX4_filled_131 : decode cX4_filled 131 = .ok (.aload_n 0, 1) := by decide +kernel
theorem dX4_filled_132 : decode cX4_filled 132 = .ok (.bipush 72, 2) := by decide +kernel
theorem dX4_filled_134 : decode cX4_filled 134 = .ok (.putfield 47, 3) := by decide +kernel
theorem dX4_filled_137 : decode cX4_filled 137 = .ok (.aload_n 0, 1) := by decide +kernel
theorem dX4_filled_138 : decode cX4_filled 138 = .ok (.aload_n 0, 1) := by decide +kernel
theorem dX4_filled_139 : decode cX4_filled 139 = .ok (.getfield 62, 3) := by decide +kernel
theorem dX4_filled_142 : decode cX4_filled 142 = .ok (.l2i, 1) := by decide +kernel
theorem dX4_filled_143 : decode cX4_filled 143 = .ok (.invokevirtual 53, 3) := by decide +kernel
theorem dX4_filled_146 : decode cX4_filled 146 = .ok (.goto 41, 3) := by decide +kernel
theorem dX4_filled_149 : decode cX4_filled 149 = .ok (.aload_n 0, 1) := by decide +kernel
theorem dX4_filled_150 : decode cX4_filled 150 = .ok (.aload_n 0, 1) := by decide +kernel
theorem dX4_filled_151 : decode cX4_filled 151 = .ok (.getfield 62, 3) := by decide +kernel
theorem dX4_filled_154 : decode cX4_filled 154 = .ok (.aload_n 0, 1) := by decide +kernel
theorem dX4_filled_155 : decode cX4_filled 155 = .ok (.getfield 101, 3) := by decide +kernel
theorem dX4_filled_158 : decode cX4_filled 158 = .ok (.bipush 111, 2) := by decide +kernel
theorem dX4_filled_160 : decode cX4_filled 160 = .ok (.if_icmp .ne 7, 3) := by decide +kernel
theorem dX4_filled_163 : decode cX4_filled 163 = .ok (.iconst 3, 1) := by decide +kernel
theorem dX4_filled_164 : decode cX4_filled 164 = .ok (.goto 4, 3) := by decide +kernel
theorem dX4_filled_167 : decode cX4_filled 167 = .ok (.iconst 4, 1) := by decide +kernel
theorem dX4_filled_168 : decode cX4_filled 168 = .ok (.aload_n 0, 1) := by decide +kernel
theorem dX4_filled_169 : decode cX4_filled 169 = .ok (.getfield 101, 3) := by decide +kernel
theorem dX4_filled_172 : decode cX4_filled 172 = .ok (.bipush 88, 2) := by decide +kernel
theorem dX4_filled_174 : decode cX4_filled 174 = .ok (.if_icmp .ne 8, 3) := by decide +kernel
theorem dX4_filled_177 : decode cX4_filled 177 = .ok (.bipush 65, 2) := by decide +kernel
theorem dX4_filled_179 : decode cX4_filled 179 = .ok (.goto 5, 3) := by decide +kernel
theorem dX4_filled_182 : decode cX4_filled 182 = .ok (.bipush 97, 2) := by decide +kernel
theorem dX4_filled_184 : decode cX4_filled 184 = .ok (.invokevirtual 122, 3) := by decide +kernel
theorem dX4_filled_187 : decode cX4_filled 187 = .ok (.aload_n 0, 1) := by decide +kernel
theorem dX4_filled_188 : decode cX4_filled 188 = .ok (.aload_n 0, 1) := by decide +kernel
theorem dX4_filled_189 : decode cX4_filled 189 = .ok (.getfield 26, 3) := by decide +kernel
theorem dX4_filled_192 : decode cX4_filled 192 = .ok (.aload_n 0, 1) := by decide +kernel
theorem dX4_filled_193 : decode cX4_filled 193 = .ok (.getfield 47, 3) := by decide +kernel
theorem dX4_filled_196 : decode cX4_filled 196 = .ok (.bipush 72, 2) := by decide +kernel
theorem dX4_filled_198 : decode cX4_filled 198 = .ok (.aload_n 0, 1) := by decide +kernel
theorem dX4_filled_199 : decode cX4_filled 199 = .ok (.getfield 47, 3) := by decide +kernel
theorem dX4_filled_202 : decode cX4_filled 202 = .ok (.isub, 1) := by decide +kernel
theorem dX4_filled_203 : decode cX4_filled 203 = .ok (.iload_n 2, 1) := by decide +kernel
theorem dX4_filled_204 : decode cX4_filled 204 = .ok (.invokevirtual 115, 3) := by decide +kernel
theorem dX4_filled_207 : decode cX4_filled 207 = .ok (.ifCond .eq 7, 3) := by decide +kernel
theorem dX4_filled_210 : decode cX4_filled 210 = .ok (.iconst 0, 1) := by decide +kernel
theorem dX4_filled_211 : decode cX4_filled 211 = .ok (.goto 5, 3) := by decide +kernel
theorem dX4_filled_214 : decode cX4_filled 214 = .ok (.bipush (-5), 2) := by decide +kernel
theorem dX4_filled_216 : decode cX4_filled 216 = .ok (.ireturn, 1) := by decide +kernel
theorem dX4_fill_0 : decode cX4_fill 0 = .ok (.iload 4, 2) := by decide +kernel
theorem dX4_fill_2 : decode cX4_fill 2 = .ok (.ifCond .ne 7, 3) := by decide +kernel
theorem dX4_fill_5 : decode cX4_fill 5 = .ok (.iload_n 3, 1) := by decide +kernel
theorem dX4_fill_6 : decode cX4_fill 6 = .ok (.goto 6, 3) := by decide +kernel
theorem dX4_fill_9 : decode cX4_fill 9 = .ok (.iload_n 3, 1) := by decide +kernel
theorem dX4_fill_10 : decode cX4_fill 10 = .ok (.iconst 1, 1) := by decide +kernel
theorem dX4_fill_11 : decode cX4_fill 11 = .ok (.iadd, 1) := by decide +kernel
theorem dX4_fill_12 : decode cX4_fill 12 = .ok (.istore 5, 2) := by decide +kernel
theorem dX4_fill_14 : decode cX4_fill 14 = .ok (.aload_n 0, 1) := by decide +kernel
theorem dX4_fill_15 : decode cX4_fill 15 = .ok (.getfield 93, 3) := by decide +kernel
theorem dX4_fill_18 : decode cX4_fill 18 = .ok (.iload 5, 2) := by decide +kernel
theorem dX4_fill_20 : decode cX4_fill 20 = .ok (.if_icmp .le 13, 3) := by decide +kernel
theorem dX4_fill_23 : decode cX4_fill 23 = .ok (.aload_n 0, 1) := by decide +kernel
theorem dX4_fill_24 : decode cX4_fill 24 = .ok (.getfield 93, 3) := by decide +kernel
theorem dX4_fill_27 : decode cX4_fill 27 = .ok (.iload 5, 2) := by decide +kernel
theorem dX4_fill_29 : decode cX4_fill 29 = .ok (.isub, 1) := by decide +kernel
theorem dX4_fill_30 : decode cX4_fill 30 = .ok (.goto 4, 3) := by decide +kernel
theorem dX4_fill_33 : decode cX4_fill 33 = .ok (.iconst 0, 1) := by decide +kernel
theorem dX4_fill_34 : decode cX4_fill 34 = .ok (.istore 6, 2) := by decide +kernel
theorem dX4_fill_36 : decode cX4_fill 36 = .ok (.aload_n 0, 1) := by decide +kernel
theorem dX4_fill_37 : decode cX4_fill 37 = .ok (.getfield 84, 3) := by decide +kernel
theorem dX4_fill_40 : decode cX4_fill 40 = .ok (.ifCond .eq 32, 3) := by decide +kernel
theorem dX4_fill_43 : decode cX4_fill 43 = .ok (.aload_n 0, 1) := by decide +kernel
theorem dX4_fill_44 : decode cX4_fill 44 = .ok (.getfield 80, 3) := by decide +kernel
theorem dX4_fill_47 : decode cX4_fill 47 = .ok (.ifCond .ne 25, 3) := by decide +kernel
theorem dX4_fill_50 : decode cX4_fill 50 = .ok (.aload_n 0, 1) := by decide +kernel
theorem dX4_fill_51 : decode cX4_fill 51 = .ok (.getfield 101, 3) := by decide +kernel
theorem dX4_fill_54 : decode cX4_fill 54 = .ok (.bipush 99, 2) := by decide +kernel
theorem dX4_fill_56 : decode cX4_fill 56 = .ok (.if_icmp .eq 16, 3) := by decide +kernel
theorem dX4_fill_59 : decode cX4_fill 59 = .ok (.aload_n 0, 1) := by decide +kernel
theorem dX4_fill_60 : decode cX4_fill 60 = .ok (.getfield 101, 3) := by decide +kernel
theorem dX4_fill_63 : decode cX4_fill 63 = .ok (.bipush 115, 2) := by decide +kernel
theorem dX4_fill_65 : decode cX4_fill 65 = .ok (.if_icmp .eq 7, 3) := by decide +kernel
theorem dX4_fill_68 : decode cX4_fill 68 = .ok (.iconst 1, 1) := by decide +kernel
theorem dX4_fill_69 : decode cX4_fill 69 = .ok (.goto 4, 3) := by decide +kernel
theorem dX4_fill_72 : decode cX4_fill 72 = .ok (.iconst 0, 1) := by decide +kernel
theorem dX4_fill_73 : decode cX4_fill 73 = .ok (.istore 7, 2) := by decide +kernel
theorem dX4_fill_75 : decode cX4_fill 75 = .ok (.aload_n 0, 1) := by decide +kernel
theorem dX4_fill_76 : decode cX4_fill 76 = .ok (.getfield 80, 3) := by decide +kernel
theorem dX4_fill_79 : decode cX4_fill 79 = .ok (.ifCond .ne 19, 3) := by decide +kernel
theorem dX4_fill_82 : decode cX4_fill 82 = .ok (.iload 7, 2) := by decide +kernel
theorem dX4_fill_84 : decode cX4_fill 84 = .ok (.ifCond .ne 14, 3) := by decide +kernel
theorem dX4_fill_87 : decode cX4_fill 87 = .ok (.aload_n 0, 1) := by decide +kernel
theorem dX4_fill_88 : decode cX4_fill 88 = .ok (.bipush 32, 2) := by decide +kernel
theorem dX4_fill_90 : decode cX4_fill 90 = .ok (.iload 6, 2) := by decide +kernel
theorem dX4_fill_92 : decode cX4_fill 92 = .ok (.invokevirtual 111, 3) := by decide +kernel
theorem dX4_fill_95 : decode cX4_fill 95 = .ok (.ifCond .eq 7, 3) := by decide +kernel
theorem dX4_fill_98 : decode cX4_fill 98 = .ok (.iconst 1, 1) := by decide +kernel
theorem dX4_fill_99 : decode cX4_fill 99 = .ok (.goto 4, 3) := by decide +kernel
theorem dX4_fill_102 : decode cX4_fill 102 = .ok (.iconst 0, 1) := by decide +kernel
theorem dX4_fill_103 : decode cX4_fill 103 = .ok (.istore 8, 2) := by decide +kernel
theorem dX4_fill_105 : decode cX4_fill 105 = .ok (.iload 8, 2) := by decide +kernel
theorem dX4_fill_107 : decode cX4_fill 107 = .ok (.ifCond .eq 37, 3) := by decide +kernel
theorem dX4_fill_110 : decode cX4_fill 110 = .ok (.iload 4, 2) := by decide +kernel
theorem dX4_fill_112 : decode cX4_fill 112 = .ok (.ifCond .eq 12, 3) := by decide +kernel
theorem dX4_fill_115 : decode cX4_fill 115 = .ok (.aload_n 0, 1) := by decide +kernel
theorem dX4_fill_116 : decode cX4_fill 116 = .ok (.iload 4, 2) := by decide +kernel
theorem dX4_fill_118 : decode cX4_fill 118 = .ok (.invokevirtual 107, 3) := by decide +kernel
theorem dX4_fill_121 : decode cX4_fill 121 = .ok (.ifCond .eq 23, 3) := by decide +kernel
theorem dX4_fill_124 : decode cX4_fill 124 = .ok (.iload 7, 2) := by decide +kernel
theorem dX4_fill_126 : decode cX4_fill 126 = .ok (.ifCond .eq 14, 3) := by decide +kernel
theorem dX4_fill_129 : decode cX4_fill 129 = .ok (.aload_n 0, 1) := by decide +kernel
theorem dX4_fill_130 : decode cX4_fill 130 = .ok (.bipush 48, 2) := by decide +kernel
theorem dX4_fill_132 : decode cX4_fill 132 = .ok (.iload 6, 2) := by decide +kernel
theorem dX4_fill_134 : decode cX4_fill 134 = .ok (.invokevirtual 111, 3) := by decide +kernel
theorem dX4_fill_137 : decode cX4_fill 137 = .ok (.ifCond .eq 7, 3) := by decide +kernel
theorem dX4_fill_140 : decode cX4_fill 140 = .ok (.iconst 1, 1) := by decide +kernel
theorem dX4_fill_141 : decode cX4_fill 141 = .ok (.goto 4, 3) := by decide +kernel
theorem dX4_fill_144 : decode cX4_fill 144 = .ok (.iconst 0, 1) := by decide +kernel
theorem dX4_fill_145 : decode cX4_fill 145 = .ok (.istore 8, 2) := by decide +kernel
theorem dX4_fill_147 : decode cX4_fill 147 = .ok (.iconst 0, 1) := by decide +kernel
theorem dX4_fill_148 : decode cX4_fill 148 = .ok (.istore 9, 2) := by decide +kernel
theorem dX4_fill_150 : decode cX4_fill 150 = .ok (.iload 9, 2) := by decide +kernel
theorem dX4_fill_152 : decode cX4_fill 152 = .ok (.iload_n 3, 1) := by decide +kernel
theorem dX4_fill_153 : decode cX4_fill 153 = .ok (.if_icmp .ge 26, 3) := by decide +kernel
theorem dX4_fill_156 : decode cX4_fill 156 = .ok (.iload 8, 2) := by decide +kernel
theorem dX4_fill_158 : decode cX4_fill 158 = .ok (.ifCond .eq 21, 3) := by decide +kernel
theorem dX4_fill_161 : decode cX4_fill 161 = .ok (.aload_n 0, 1) := by decide +kernel
theorem dX4_fill_162 : decode cX4_fill 162 = .ok (.aload_n 1, 1) := by decide +kernel
theorem dX4_fill_163 : decode cX4_fill 163 = .ok (.iload_n 2, 1) := by decide +kernel
theorem dX4_fill_164 : decode cX4_fill 164 = .ok (.iload 9, 2) := by decide +kernel
theorem dX4_fill_166 : decode cX4_fill 166 = .ok (.iadd, 1) := by decide +kernel
theorem dX4_fill_167 : decode cX4_fill 167 = .ok (.baload, 1) := by decide +kernel
theorem dX4_fill_168 : decode cX4_fill 168 = .ok (.invokevirtual 107, 3) := by decide +kernel
theorem dX4_fill_171 : decode cX4_fill 171 = .ok (.istore 8, 2) := by decide +kernel
theorem dX4_fill_173 : decode cX4_fill 173 = .ok (.iinc 9 1, 3) := by decide +kernel
theorem dX4_fill_176 : decode cX4_fill 176 = .ok (.goto (-26), 3) := by decide +kernel
theorem dX4_fill_179 : decode cX4_fill 179 = .ok (.iload 8, 2) := by decide +kernel
theorem dX4_fill_181 : decode cX4_fill 181 = .ok (.ifCond .eq 25, 3) := by decide +kernel
theorem dX4_fill_184 : decode cX4_fill 184 = .ok (.aload_n 0, 1) := by decide +kernel
theorem dX4_fill_185 : decode cX4_fill 185 = .ok (.getfield 80, 3) := by decide +kernel
theorem dX4_fill_188 : decode cX4_fill 188 = .ok (.ifCond .eq 14, 3) := by decide +kernel
theorem dX4_fill_191 : decode cX4_fill 191 = .ok (.aload_n 0, 1) := by decide +kernel
theorem dX4_fill_192 : decode cX4_fill 192 = .ok (.bipush 32, 2) := by decide +kernel
theorem dX4_fill_194 : decode cX4_fill 194 = .ok (.iload 6, 2) := by decide +kernel
theorem dX4_fill_196 : decode cX4_fill 196 = .ok (.invokevirtual 111, 3) := by decide +kernel
theorem dX4_fill_199 : decode cX4_fill 199 = .ok (.ifCond .eq 7, 3) := by decide +kernel
theorem dX4_fill_202 : decode cX4_fill 202 = .ok (.iconst 1, 1) := by decide +kernel
theorem dX4_fill_203 : decode cX4_fill 203 = .ok (.goto 4, 3) := by decide +kernel
theorem dX4_fill_206 : decode cX4_fill 206 = .ok (.iconst 0, 1) := by decide +kernel
theorem dX4_fill_207 : decode cX4_fill 207 = .ok (.ireturn, 1) := by decide +kernel
theorem dX4_puts_0 : decode cX4_puts 0 = .ok (.aload_n 0, 1) := by decide +kernel
theorem dX4_puts_1 : decode cX4_puts 1 = .ok (.getfield 104, 3) := by decide +kernel
theorem dX4_puts_4 : decode cX4_puts 4 = .ok (.iload_n 2, 1) := by decide +kernel
theorem dX4_puts_5 : decode cX4_puts 5 = .ok (.iadd, 1) := by decide +kernel
theorem dX4_puts_6 : decode cX4_puts 6 = .ok (.sipush 1024, 3) := by decide +kernel
theorem dX4_puts_9 : decode cX4_puts 9 = .ok (.if_icmp .gt 7, 3) := by decide +kernel
theorem dX4_puts_12 : decode cX4_puts 12 = .ok (.iconst 1, 1) := by decide +kernel
theorem dX4_puts_13 : decode cX4_puts 13 = .ok (.goto 4, 3) := by decide +kernel
theorem dX4_puts_16 : decode cX4_puts 16 = .ok (.iconst 0, 1) := by decide +kernel
theorem dX4_puts_17 : decode cX4_puts 17 = .ok (.istore_n 3, 1) := by decide +kernel
theorem dX4_puts_18 : decode cX4_puts 18 = .ok (.iconst 0, 1) := by decide +kernel
theorem dX4_puts_19 : decode cX4_puts 19 = .ok (.istore 4, 2) := by decide +kernel
theorem dX4_puts_21 : decode cX4_puts 21 = .ok (.iload 4, 2) := by decide +kernel
theorem dX4_puts_23 : decode cX4_puts 23 = .ok (.iload_n 2, 1) := by decide +kernel
theorem dX4_puts_24 : decode cX4_puts 24 = .ok (.if_icmp .ge 19, 3) := by decide +kernel
theorem dX4_puts_27 : decode cX4_puts 27 = .ok (.iload_n 3, 1) := by decide +kernel
theorem dX4_puts_28 : decode cX4_puts 28 = .ok (.ifCond .eq 15, 3) := by decide +kernel
theorem dX4_puts_31 : decode cX4_puts 31 = .ok (.aload_n 0, 1) := by decide +kernel
theorem dX4_puts_32 : decode cX4_puts 32 = .ok (.iload_n 1, 1) := by decide +kernel
theorem dX4_puts_33 : decode cX4_puts 33 = .ok (.invokevirtual 107, 3) := by decide +kernel
theorem dX4_puts_36 : decode cX4_puts 36 = .ok (.istore_n 3, 1) := by decide +kernel
theorem dX4_puts_37 : decode cX4_puts 37 = .ok (.iinc 4 1, 3) := by decide +kernel
theorem dX4_puts_40 : decode cX4_puts 40 = .ok (.goto (-19), 3) := by decide +kernel
theorem dX4_puts_43 : decode cX4_puts 43 = .ok (.iload_n 3, 1) := by decide +kernel
theorem dX4_puts_44 : decode cX4_puts 44 = .ok (.ireturn, 1) := by decide +kernel
theorem dX4_isInteger_0 : decode cX4_isInteger 0 = .ok (.bipush 40, 2) := by decide +kernel
theorem dX4_isInteger_2 : decode cX4_isInteger 2 = .ok (.iload_n 1, 1) := by decide +kernel
theorem dX4_isInteger_3 : decode cX4_isInteger 3 = .ok (.imul, 1) := by decide +kernel
theorem dX4_isInteger_4 : decode cX4_isInteger 4 = .ok (.istore_n 2, 1) := by decide +kernel
theorem dX4_isInteger_5 : decode cX4_isInteger 5 = .ok (.iload_n 2, 1) := by decide +kernel
theorem dX4_isInteger_6 : decode cX4_isInteger 6 = .ok (.aload_n 0, 1) := by decide +kernel
theorem dX4_isInteger_7 : decode cX4_isInteger 7 = .ok (.getfield 22, 3) := by decide +kernel
theorem dX4_isInteger_10 : decode cX4_isInteger 10 = .ok (.iload_n 1, 1) := by decide +kernel
theorem dX4_isInteger_11 : decode cX4_isInteger 11 = .ok (.iaload, 1) := by decide +kernel
theorem dX4_isInteger_12 : decode cX4_isInteger 12 = .ok (.iadd, 1) := by decide +kernel
theorem dX4_isInteger_13 : decode cX4_isInteger 13 = .ok (.istore_n 3, 1) := by decide +kernel
theorem dX4_isInteger_14 : decode cX4_isInteger 14 = .ok (.iload_n 2, 1) := by decide +kernel
theorem dX4_isInteger_15 : decode cX4_isInteger 15 = .ok (.iload_n 3, 1) := by decide +kernel
theorem dX4_isInteger_16 : decode cX4_isInteger 16 = .ok (.if_icmp .ge 18, 3) := by decide +kernel
theorem dX4_isInteger_19 : decode cX4_isInteger 19 = .ok (.aload_n 0, 1) := by decide +kernel
theorem dX4_isInteger_20 : decode cX4_isInteger 20 = .ok (.getfield 16, 3) := by decide +kernel
theorem dX4_isInteger_23 : decode cX4_isInteger 23 = .ok (.iload_n 2, 1) := by decide +kernel
theorem dX4_isInteger_24 : decode cX4_isInteger 24 = .ok (.baload, 1) := by decide +kernel
theorem dX4_isInteger_25 : decode cX4_isInteger 25 = .ok (.bipush 45, 2) := by decide +kernel
theorem dX4_isInteger_27 : decode cX4_isInteger 27 = .ok (.if_icmp .ne 7, 3) := by decide +kernel
theorem dX4_isInteger_30 : decode cX4_isInteger 30 = .ok (.iconst 1, 1) := by decide +kernel
theorem dX4_isInteger_31 : decode cX4_isInteger 31 = .ok (.goto 4, 3) := by decide +kernel
theorem dX4_isInteger_34 : decode cX4_isInteger 34 = .ok (.iconst 0, 1) := by decide +kernel
theorem dX4_isInteger_35 : decode cX4_isInteger 35 = .ok (.istore 4, 2) := by decide +kernel
theorem dX4_isInteger_37 : decode cX4_isInteger 37 = .ok (.iload_n 2, 1) := by decide +kernel
theorem dX4_isInteger_38 : decode cX4_isInteger 38 = .ok (.iload_n 3, 1) := by decide +kernel
theorem dX4_isInteger_39 : decode cX4_isInteger 39 = .ok (.if_icmp .ge 25, 3) := by decide +kernel
theorem dX4_isInteger_42 : decode cX4_isInteger 42 = .ok (.iload 4, 2) := by decide +kernel
theorem dX4_isInteger_44 : decode cX4_isInteger 44 = .ok (.ifCond .ne 14, 3) := by decide +kernel
theorem dX4_isInteger_47 : decode cX4_isInteger 47 = .ok (.aload_n 0, 1) := by decide +kernel
theorem dX4_isInteger_48 : decode cX4_isInteger 48 = .ok (.getfield 16, 3) := by decide +kernel
theorem dX4_isInteger_51 : decode cX4_isInteger 51 = .ok (.iload_n 2, 1) := by decide +kernel
theorem dX4_isInteger_52 : decode cX4_isInteger 52 = .ok (.baload, 1) := by decide +kernel
theorem dX4_isInteger_53 : decode cX4_isInteger 53 = .ok (.bipush 43, 2) := by decide +kernel
theorem dX4_isInteger_55 : decode cX4_isInteger 55 = .ok (.if_icmp .ne 9, 3) := by decide +kernel
theorem dX4_isInteger_58 : decode cX4_isInteger 58 = .ok (.iload_n 2, 1) := by decide +kernel
theorem dX4_isInteger_59 : decode cX4_isInteger 59 = .ok (.iconst 1, 1) := by decide +kernel
theorem dX4_isInteger_60 : decode cX4_isInteger 60 = .ok (.iadd, 1) := by decide +kernel
theorem dX4_isInteger_61 : decode cX4_isInteger 61 = .ok (.goto 4, 3) := by decide +kernel
theorem dX4_isInteger_64 : decode cX4_isInteger 64 = .ok (.iload_n 2, 1) := by decide +kernel
theorem dX4_isInteger_65 : decode cX4_isInteger 65 = .ok (.istore 5, 2) := by decide +kernel
theorem dX4_isInteger_67 : decode cX4_isInteger 67 = .ok (.iload 5, 2) := by decide +kernel
theorem dX4_isInteger_69 : decode cX4_isInteger 69 = .ok (.iconst 1, 1) := by decide +kernel
theorem dX4_isInteger_70 : decode cX4_isInteger 70 = .ok (.iadd, 1) := by decide +kernel
theorem dX4_isInteger_71 : decode cX4_isInteger 71 = .ok (.iload_n 3, 1) := by decide +kernel
theorem dX4_isInteger_72 : decode cX4_isInteger 72 = .ok (.if_icmp .ge 33, 3) := by decide +kernel
theorem dX4_isInteger_75 : decode cX4_isInteger 75 = .ok (.aload_n 0, 1) := by decide +kernel
theorem dX4_isInteger_76 : decode cX4_isInteger 76 = .ok (.getfield 16, 3) := by decide +kernel
theorem dX4_isInteger_79 : decode cX4_isInteger 79 = .ok (.iload 5, 2) := by decide +kernel
theorem dX4_isInteger_81 : decode cX4_isInteger 81 = .ok (.baload, 1) := by decide +kernel
theorem dX4_isInteger_82 : decode cX4_isInteger 82 = .ok (.bipush 48, 2) := by decide +kernel
theorem dX4_isInteger_84 : decode cX4_isInteger 84 = .ok (.if_icmp .ne 21, 3) := by decide +kernel
theorem dX4_isInteger_87 : decode cX4_isInteger 87 = .ok (.aload_n 0, 1) := by decide +kernel
theorem dX4_isInteger_88 : decode cX4_isInteger 88 = .ok (.getfield 16, 3) := by decide +kernel
theorem dX4_isInteger_91 : decode cX4_isInteger 91 = .ok (.iload 5, 2) := by decide +kernel
theorem dX4_isInteger_93 : decode cX4_isInteger 93 = .ok (.iconst 1, 1) := by decide +kernel
theorem dX4_isInteger_94 : decode cX4_isInteger 94 = .ok (.iadd, 1) := by decide +kernel
theorem dX4_isInteger_95 : decode cX4_isInteger 95 = .ok (.baload, 1) := by decide +kernel
theorem dX4_isInteger_96 : decode cX4_isInteger 96 = .ok (.bipush 120, 2) := by decide +kernel
theorem dX4_isInteger_98 : decode cX4_isInteger 98 = .ok (.if_icmp .ne 7, 3) := by decide +kernel
theorem dX4_isInteger_101 : decode cX4_isInteger 101 = .ok (.iconst 1, 1) := by decide +kernel
theorem dX4_isInteger_102 : decode cX4_isInteger 102 = .ok (.goto 4, 3) := by decide +kernel
theorem dX4_isInteger_105 : decode cX4_isInteger 105 = .ok (.iconst 0, 1) := by decide +kernel
theorem dX4_isInteger_106 : decode cX4_isInteger 106 = .ok (.istore 6, 2) := by decide +kernel
theorem dX4_isInteger_108 : decode cX4_isInteger 108 = .ok (.iload 6, 2) := by decide +kernel
theorem dX4_isInteger_110 : decode cX4_isInteger 110 = .ok (.ifCond .eq 17, 3) := by decide +kernel
theorem dX4_isInteger_113 : decode cX4_isInteger 113 = .ok (.aload_n 0, 1) := by decide +kernel
theorem dX4_isInteger_114 : decode cX4_isInteger 114 = .ok (.iload 5, 2) := by decide +kernel
theorem dX4_isInteger_116 : decode cX4_isInteger 116 = .ok (.iconst 2, 1) := by decide +kernel
theorem dX4_isInteger_117 : decode cX4_isInteger 117 = .ok (.iadd, 1) := by decide +kernel
theorem dX4_isInteger_118 : decode cX4_isInteger 118 = .ok (.iload_n 3, 1) := by decide +kernel
theorem dX4_isInteger_119 : decode cX4_isInteger 119 = .ok (.iload 4, 2) := by decide +kernel
theorem dX4_isInteger_121 : decode cX4_isInteger 121 = .ok (.invokevirtual 70, 3) := by decide +kernel
theorem dX4_isInteger_124 : decode cX4_isInteger 124 = .ok (.goto 12, 3) := by decide +kernel
theorem dX4_isInteger_127 : decode cX4_isInteger 127 = .ok (.aload_n 0, 1) := by decide +kernel
theorem dX4_isInteger_128 : decode cX4_isInteger 128 = .ok (.iload 5, 2) := by decide +kernel
theorem dX4_isInteger_130 : decode cX4_isInteger 130 = .ok (.iload_n 3, 1) := by decide +kernel
theorem dX4_isInteger_131 : decode cX4_isInteger 131 = .ok (.iload 4, 2) := by decide +kernel
theorem dX4_isInteger_133 : decode cX4_isInteger 133 = .ok (.invokevirtual 74, 3) := by decide +kernel
theorem dX4_isInteger_136 : decode cX4_isInteger 136 = .ok (.ireturn, 1) := by decide +kernel
theorem dX4_isHex_0 : decode cX4_isHex 0 = .ok (.lconst 0, 1) := by decide +kernel
theorem dX4_isHex_1 : decode cX4_isHex 1 = .ok (.lstore 4, 2) := by decide +kernel
theorem dX4_isHex_3 : decode cX4_isHex 3 = .ok (.iload_n 1, 1) := by decide +kernel
theorem dX4_isHex_4 : decode cX4_isHex 4 = .ok (.iload_n 2, 1) := by decide +kernel
theorem dX4_isHex_5 : decode cX4_isHex 5 = .ok (.if_icmp .ge 15, 3) := by decide +kernel
theorem dX4_isHex_8 : decode cX4_isHex 8 = .ok (.iload_n 2, 1) := by decide +kernel
theorem dX4_isHex_9 : decode cX4_isHex 9 = .ok (.iload_n 1, 1) := by decide +kernel
theorem dX4_isHex_10 : decode cX4_isHex 10 = .ok (.isub, 1) := by decide +kernel
theorem dX4_isHex_11 : decode cX4_isHex 11 = .ok (.bipush 16, 2) := by decide +kernel
theorem dX4_isHex_13 : decode cX4_isHex 13 = .ok (.if_icmp .gt 7, 3) := by decide +kernel
theorem dX4_isHex_16 : decode cX4_isHex 16 = .ok (.iconst 1, 1) := by decide +kernel
theorem dX4_isHex_17 : decode cX4_isHex 17 = .ok (.goto 4, 3) := by decide +kernel
theorem dX4_isHex_20 : decode cX4_isHex 20 = .ok (.iconst 0, 1) := by decide +kernel
theorem dX4_isHex_21 : decode cX4_isHex 21 = .ok (.istore 6, 2) := by decide +kernel
theorem dX4_isHex_23 : decode cX4_isHex 23 = .ok (.iload_n 1, 1) := by decide +kernel
theorem dX4_isHex_24 : decode cX4_isHex 24 = .ok (.istore 7, 2) := by decide +kernel
theorem dX4_isHex_26 : decode cX4_isHex 26 = .ok (.iload 7, 2) := by decide +kernel
theorem dX4_isHex_28 : decode cX4_isHex 28 = .ok (.iload_n 2, 1) := by decide +kernel
theorem dX4_isHex_29 : decode cX4_isHex 29 = .ok (.if_icmp .ge 49, 3) := by decide +kernel
theorem dX4_isHex_32 : decode cX4_isHex 32 = .ok (.iload 6, 2) := by decide +kernel
theorem dX4_isHex_34 : decode cX4_isHex 34 = .ok (.ifCond .eq 44, 3) := by decide +kernel
theorem dX4_isHex_37 : decode cX4_isHex 37 = .ok (.aload_n 0, 1) := by decide +kernel
theorem dX4_isHex_38 : decode cX4_isHex 38 = .ok (.getfield 16, 3) := by decide +kernel
theorem dX4_isHex_41 : decode cX4_isHex 41 = .ok (.iload 7, 2) := by decide +kernel
theorem dX4_isHex_43 : decode cX4_isHex 43 = .ok (.baload, 1) := by decide +kernel
theorem dX4_isHex_44 : decode cX4_isHex 44 = .ok (.invokestatic 58, 3) := by decide +kernel
theorem dX4_isHex_47 : decode cX4_isHex 47 = .ok (.istore 8, 2) := by decide +kernel
theorem dX4_isHex_49 : decode cX4_isHex 49 = .ok (.iload 8, 2) := by decide +kernel
theorem dX4_isHex_51 : decode cX4_isHex 51 = .ok (.iconst (-1), 1) := by decide +kernel
theorem dX4_isHex_52 : decode cX4_isHex 52 = .ok (.if_icmp .eq 7, 3) := by decide +kernel
theorem dX4_isHex_55 : decode cX4_isHex 55 = .ok (.iconst 1, 1) := by decide +kernel
theorem dX4_isHex_56 : decode cX4_isHex 56 = .ok (.goto 4, 3) := by decide +kernel
theorem dX4_isHex_59 : decode cX4_isHex 59 = .ok (.iconst 0, 1) := by decide +kernel
theorem dX4_isHex_60 : decode cX4_isHex 60 = .ok (.istore 6, 2) := by decide +kernel
theorem dX4_isHex_62 : decode cX4_isHex 62 = .ok (.lload 4, 2) := by decide +kernel
theorem dX4_isHex_64 : decode cX4_isHex 64 = .ok (.iconst 4, 1) := by decide +kernel
theorem dX4_isHex_65 : decode cX4_isHex 65 = .ok (.lshl, 1) := by decide +kernel
theorem dX4_isHex_66 : decode cX4_isHex 66 = .ok (.iload 8, 2) := by decide +kernel
theorem dX4_isHex_68 : decode cX4_isHex 68 = .ok (.i2l, 1) := by decide +kernel
theorem dX4_isHex_69 : decode cX4_isHex 69 = .ok (.lor, 1) := by decide +kernel
theorem dX4_isHex_70 : decode cX4_isHex 70 = .ok (.lstore 4, 2) := by decide +kernel
theorem dX4_isHex_72 : decode cX4_isHex 72 = .ok (.iinc 7 1, 3) := by decide +kernel
theorem dX4_isHex_75 : decode cX4_isHex 75 = .ok (.goto (-49), 3) := by decide +kernel
theorem dX4_isHex_78 : decode cX4_isHex 78 = .ok (.aload_n 0, 1) := by decide +kernel
theorem dX4_isHex_79 : decode cX4_isHex 79 = .ok (.iload_n 3, 1) := by decide +kernel
theorem dX4_isHex_80 : decode cX4_isHex 80 = .ok (.ifCond .eq 9, 3) := by decide +kernel
theorem dX4_isHex_83 : decode cX4_isHex 83 = .ok (.lload 4, 2) := by decide +kernel
theorem dX4_isHex_85 : decode cX4_isHex 85 = .ok (.lneg, 1) := by decide +kernel
theorem dX4_isHex_86 : decode cX4_isHex 86 = .ok (.goto 5, 3) := by decide +kernel
theorem dX4_isHex_89 : decode cX4_isHex 89 = .ok (.lload 4, 2) := by decide +kernel
theorem dX4_isHex_91 : decode cX4_isHex 91 = .ok (.putfield 62, 3) := by decide +kernel
theorem dX4_isHex_94 : decode cX4_isHex 94 = .ok (.iload 6, 2) := by decide +kernel
theorem dX4_isHex_96 : decode cX4_isHex 96 = .ok (.ireturn, 1) := by decide +kernel
theorem dX4_hex_0 : decode cX4_hex 0 = .ok (.iload_n 0, 1) := by decide +kernel
theorem dX4_hex_1 : decode cX4_hex 1 = .ok (.bipush 48, 2) := by decide +kernel
theorem dX4_hex_3 : decode cX4_hex 3 = .ok (.if_icmp .lt 14, 3) := by decide +kernel
theorem dX4_hex_6 : decode cX4_hex 6 = .ok (.iload_n 0, 1) := by decide +kernel
theorem dX4_hex_7 : decode cX4_hex 7 = .ok (.bipush 57, 2) := by decide +kernel
theorem dX4_hex_9 : decode cX4_hex 9 = .ok (.if_icmp .gt 8, 3) := by decide +kernel
theorem dX4_hex_12 : decode cX4_hex 12 = .ok (.iload_n 0, 1) := by decide +kernel
theorem dX4_hex_13 : decode cX4_hex 13 = .ok (.bipush 48, 2) := by decide +kernel
theorem dX4_hex_15 : decode cX4_hex 15 = .ok (.isub, 1) := by decide +kernel
theorem dX4_hex_16 : decode cX4_hex 16 = .ok (.ireturn, 1) := by decide +kernel
theorem dX4_hex_17 : decode cX4_hex 17 = .ok (.iload_n 0, 1) := by decide +kernel
theorem dX4_hex_18 : decode cX4_hex 18 = .ok (.bipush 97, 2) := by decide +kernel
theorem dX4_hex_20 : decode cX4_hex 20 = .ok (.if_icmp .lt 17, 3) := by decide +kernel
theorem dX4_hex_23 : decode cX4_hex 23 = .ok (.iload_n 0, 1) := by decide +kernel
theorem dX4_hex_24 : decode cX4_hex 24 = .ok (.bipush 102, 2) := by decide +kernel
theorem dX4_hex_26 : decode cX4_hex 26 = .ok (.if_icmp .gt 11, 3) := by decide +kernel
theorem dX4_hex_29 : decode cX4_hex 29 = .ok (.iload_n 0, 1) := by decide +kernel
theorem dX4_hex_30 : decode cX4_hex 30 = .ok (.bipush 97, 2) := by decide +kernel
theorem dX4_hex_32 : decode cX4_hex 32 = .ok (.isub, 1) := by decide +kernel
theorem dX4_hex_33 : decode cX4_hex 33 = .ok (.bipush 10, 2) := by decide +kernel
theorem dX4_hex_35 : decode cX4_hex 35 = .ok (.iadd, 1) := by decide +kernel
theorem dX4_hex_36 : decode cX4_hex 36 = .ok (.ireturn, 1) := by decide +kernel
theorem dX4_hex_37 : decode cX4_hex 37 = .ok (.iload_n 0, 1) := by decide +kernel
theorem dX4_hex_38 : decode cX4_hex 38 = .ok (.bipush 65, 2) := by decide +kernel
theorem dX4_hex_40 : decode cX4_hex 40 = .ok (.if_icmp .lt 19, 3) := by decide +kernel
theorem dX4_hex_43 : decode cX4_hex 43 = .ok (.iload_n 0, 1) := by decide +kernel
theorem dX4_hex_44 : decode cX4_hex 44 = .ok (.bipush 70, 2) := by decide +kernel
theorem dX4_hex_46 : decode cX4_hex 46 = .ok (.if_icmp .gt 13, 3) := by decide +kernel
theorem dX4_hex_49 : decode cX4_hex 49 = .ok (.iload_n 0, 1) := by decide +kernel
theorem dX4_hex_50 : decode cX4_hex 50 = .ok (.bipush 65, 2) := by decide +kernel
theorem dX4_hex_52 : decode cX4_hex 52 = .ok (.isub, 1) := by decide +kernel
theorem dX4_hex_53 : decode cX4_hex 53 = .ok (.bipush 10, 2) := by decide +kernel
theorem dX4_hex_55 : decode cX4_hex 55 = .ok (.iadd, 1) := by decide +kernel
theorem dX4_hex_56 : decode cX4_hex 56 = .ok (.goto 4, 3) := by decide +kernel
theorem dX4_hex_59 : decode cX4_hex 59 = .ok (.iconst (-1), 1) := by decide +kernel
theorem dX4_hex_60 : decode cX4_hex 60 = .ok (.ireturn, 1) := by decide +kernel
theorem dX4_isDecimal_0 : decode cX4_isDecimal 0 = .ok (.lconst 0, 1) := by decide +kernel
theorem dX4_isDecimal_1 : decode cX4_isDecimal 1 = .ok (.lstore 4, 2) := by decide +kernel
theorem dX4_isDecimal_3 : decode cX4_isDecimal 3 = .ok (.iload_n 1, 1) := by decide +kernel
theorem dX4_isDecimal_4 : decode cX4_isDecimal 4 = .ok (.iload_n 2, 1) := by decide +kernel
theorem dX4_isDecimal_5 : decode cX4_isDecimal 5 = .ok (.if_icmp .ge 7, 3) := by decide +kernel
theorem dX4_isDecimal_8 : decode cX4_isDecimal 8 = .ok (.iconst 1, 1) := by decide +kernel
theorem dX4_isDecimal_9 : decode cX4_isDecimal 9 = .ok (.goto 4, 3) := by decide +kernel
theorem dX4_isDecimal_12 : decode cX4_isDecimal 12 = .ok (.iconst 0, 1) := by decide +kernel
theorem dX4_isDecimal_13 : decode cX4_isDecimal 13 = .ok (.istore 6, 2) := by decide +kernel
theorem dX4_isDecimal_15 : decode cX4_isDecimal 15 = .ok (.iload_n 1, 1) := by decide +kernel
theorem dX4_isDecimal_16 : decode cX4_isDecimal 16 = .ok (.istore 7, 2) := by decide +kernel
theorem dX4_isDecimal_18 : decode cX4_isDecimal 18 = .ok (.iload 7, 2) := by decide +kernel
theorem dX4_isDecimal_20 : decode cX4_isDecimal 20 = .ok (.iload_n 2, 1) := by decide +kernel
theorem dX4_isDecimal_21 : decode cX4_isDecimal 21 = .ok (.if_icmp .ge 92, 3) := by decide +kernel
theorem dX4_isDecimal_24 : decode cX4_isDecimal 24 = .ok (.iload 6, 2) := by decide +kernel
theorem dX4_isDecimal_26 : decode cX4_isDecimal 26 = .ok (.ifCond .eq 87, 3) := by decide +kernel
theorem dX4_isDecimal_29 : decode cX4_isDecimal 29 = .ok (.aload_n 0, 1) := by decide +kernel
theorem dX4_isDecimal_30 : decode cX4_isDecimal 30 = .ok (.getfield 16, 3) := by decide +kernel
theorem dX4_isDecimal_33 : decode cX4_isDecimal 33 = .ok (.iload 7, 2) := by decide +kernel
theorem dX4_isDecimal_35 : decode cX4_isDecimal 35 = .ok (.baload, 1) := by decide +kernel
theorem dX4_isDecimal_36 : decode cX4_isDecimal 36 = .ok (.bipush 48, 2) := by decide +kernel
theorem dX4_isDecimal_38 : decode cX4_isDecimal 38 = .ok (.isub, 1) := by decide +kernel
theorem dX4_isDecimal_39 : decode cX4_isDecimal 39 = .ok (.istore 8, 2) := by decide +kernel
theorem dX4_isDecimal_41 : decode cX4_isDecimal 41 = .ok (.iload 8, 2) := by decide +kernel
theorem dX4_isDecimal_43 : decode cX4_isDecimal 43 = .ok (.ifCond .lt 40, 3) := by decide +kernel
theorem dX4_isDecimal_46 : decode cX4_isDecimal 46 = .ok (.iload 8, 2) := by decide +kernel
theorem dX4_isDecimal_48 : decode cX4_isDecimal 48 = .ok (.bipush 9, 2) := by decide +kernel
theorem dX4_isDecimal_50 : decode cX4_isDecimal 50 = .ok (.if_icmp .gt 33, 3) := by decide +kernel
theorem dX4_isDecimal_53 : decode cX4_isDecimal 53 = .ok (.lload 4, 2) := by decide +kernel
theorem dX4_isDecimal_55 : decode cX4_isDecimal 55 = .ok (.ldc2_w 66, 3) := by decide +kernel
theorem dX4_isDecimal_58 : decode cX4_isDecimal 58 = .ok (.lcmp, 1) := by decide +kernel
theorem dX4_isDecimal_59 : decode cX4_isDecimal 59 = .ok (.ifCond .lt 24, 3) := by decide +kernel
theorem dX4_isDecimal_62 : decode cX4_isDecimal 62 = .ok (.ldc2_w 56, 3) := by decide +kernel
theorem dX4_isDecimal_65 : decode cX4_isDecimal 65 = .ok (.lload 4, 2) := by decide +kernel
theorem dX4_isDecimal_67 : decode cX4_isDecimal 67 = .ok (.lmul, 1) := by decide +kernel
theorem dX4_isDecimal_68 : decode cX4_isDecimal 68 = .ok (.ldc2_w 68, 3) := by decide +kernel
theorem dX4_isDecimal_71 : decode cX4_isDecimal 71 = .ok (.iload 8, 2) := by decide +kernel
theorem dX4_isDecimal_73 : decode cX4_isDecimal 73 = .ok (.i2l, 1) := by decide +kernel
theorem dX4_isDecimal_74 : decode cX4_isDecimal 74 = .ok (.ladd, 1) := by decide +kernel
theorem dX4_isDecimal_75 : decode cX4_isDecimal 75 = .ok (.lcmp, 1) := by decide +kernel
theorem dX4_isDecimal_76 : decode cX4_isDecimal 76 = .ok (.ifCond .lt 7, 3) := by decide +kernel
theorem dX4_isDecimal_79 : decode cX4_isDecimal 79 = .ok (.iconst 1, 1) := by decide +kernel
theorem dX4_isDecimal_80 : decode cX4_isDecimal 80 = .ok (.goto 4, 3) := by decide +kernel
theorem dX4_isDecimal_83 : decode cX4_isDecimal 83 = .ok (.iconst 0, 1) := by decide +kernel
theorem dX4_isDecimal_84 : decode cX4_isDecimal 84 = .ok (.istore 6, 2) := by decide +kernel
theorem dX4_isDecimal_86 : decode cX4_isDecimal 86 = .ok (.iload 6, 2) := by decide +kernel
theorem dX4_isDecimal_88 : decode cX4_isDecimal 88 = .ok (.ifCond .eq 16, 3) := by decide +kernel
theorem dX4_isDecimal_91 : decode cX4_isDecimal 91 = .ok (.ldc2_w 56, 3) := by decide +kernel
theorem dX4_isDecimal_94 : decode cX4_isDecimal 94 = .ok (.lload 4, 2) := by decide +kernel
theorem dX4_isDecimal_96 : decode cX4_isDecimal 96 = .ok (.lmul, 1) := by decide +kernel
theorem dX4_isDecimal_97 : decode cX4_isDecimal 97 = .ok (.iload 8, 2) := by decide +kernel
theorem dX4_isDecimal_99 : decode cX4_isDecimal 99 = .ok (.i2l, 1) := by decide +kernel
theorem dX4_isDecimal_100 : decode cX4_isDecimal 100 = .ok (.lsub, 1) := by decide +kernel
theorem dX4_isDecimal_101 : decode cX4_isDecimal 101 = .ok (.goto 4, 3) := by decide +kernel
theorem dX4_isDecimal_104 : decode cX4_isDecimal 104 = .ok (.lconst 0, 1) := by decide +kernel
theorem dX4_isDecimal_105 : decode cX4_isDecimal 105 = .ok (.lstore 4, 2) := by decide +kernel
theorem dX4_isDecimal_107 : decode cX4_isDecimal 107 = .ok (.iinc 7 1, 3) := by decide +kernel
theorem dX4_isDecimal_110 : decode cX4_isDecimal 110 = .ok (.goto (-92), 3) := by decide +kernel
theorem dX4_isDecimal_113 : decode cX4_isDecimal 113 = .ok (.iload 6, 2) := by decide +kernel
theorem dX4_isDecimal_115 : decode cX4_isDecimal 115 = .ok (.ifCond .eq 20, 3) := by decide +kernel
theorem dX4_isDecimal_118 : decode cX4_isDecimal 118 = .ok (.iload_n 3, 1) := by decide +kernel
theorem dX4_isDecimal_119 : decode cX4_isDecimal 119 = .ok (.ifCond .ne 12, 3) := by decide +kernel
theorem dX4_isDecimal_122 : decode cX4_isDecimal 122 = .ok (.lload 4, 2) := by decide +kernel
theorem dX4_isDecimal_124 : decode cX4_isDecimal 124 = .ok (.ldc2_w 68, 3) := by decide +kernel
theorem dX4_isDecimal_127 : decode cX4_isDecimal 127 = .ok (.lcmp, 1) := by decide +kernel
theorem dX4_isDecimal_128 : decode cX4_isDecimal 128 = .ok (.ifCond .eq 7, 3) := by decide +kernel
theorem dX4_isDecimal_131 : decode cX4_isDecimal 131 = .ok (.iconst 1, 1) := by decide +kernel
theorem dX4_isDecimal_132 : decode cX4_isDecimal 132 = .ok (.goto 4, 3) := by decide +kernel
theorem dX4_isDecimal_135 : decode cX4_isDecimal 135 = .ok (.iconst 0, 1) := by decide +kernel
theorem dX4_isDecimal_136 : decode cX4_isDecimal 136 = .ok (.istore 6, 2) := by decide +kernel
theorem dX4_isDecimal_138 : decode cX4_isDecimal 138 = .ok (.aload_n 0, 1) := by decide +kernel
theorem dX4_isDecimal_139 : decode cX4_isDecimal 139 = .ok (.iload_n 3, 1) := by decide +kernel
theorem dX4_isDecimal_140 : decode cX4_isDecimal 140 = .ok (.ifCond .eq 8, 3) := by decide +kernel
theorem dX4_isDecimal_143 : decode cX4_isDecimal 143 = .ok (.lload 4, 2) := by decide +kernel
theorem dX4_isDecimal_145 : decode cX4_isDecimal 145 = .ok (.goto 6, 3) := by decide +kernel
theorem dX4_isDecimal_148 : decode cX4_isDecimal 148 = .ok (.lload 4, 2) := by decide +kernel
theorem dX4_isDecimal_150 : decode cX4_isDecimal 150 = .ok (.lneg, 1) := by decide +kernel
theorem dX4_isDecimal_151 : decode cX4_isDecimal 151 = .ok (.putfield 62, 3) := by decide +kernel
theorem dX4_isDecimal_154 : decode cX4_isDecimal 154 = .ok (.iload 6, 2) := by decide +kernel
theorem dX4_isDecimal_156 : decode cX4_isDecimal 156 = .ok (.ireturn, 1) := by decide +kernel
theorem dX4_bits_0 : decode cX4_bits 0 = .ok (.aload_n 0, 1) := by decide +kernel
theorem dX4_bits_1 : decode cX4_bits 1 = .ok (.bipush 72, 2) := by decide +kernel
theorem dX4_bits_3 : decode cX4_bits 3 = .ok (.putfield 47, 3) := by decide +kernel
theorem dX4_bits_6 : decode cX4_bits 6 = .ok (.lload_n 1, 1) := by decide +kernel
theorem dX4_bits_7 : decode cX4_bits 7 = .ok (.lstore 5, 2) := by decide +kernel
theorem dX4_bits_9 : decode cX4_bits 9 = .ok (.lload 5, 2) := by decide +kernel
theorem dX4_bits_11 : decode cX4_bits 11 = .ok (.lconst 1, 1) := by decide +kernel
theorem dX4_bits_12 : decode cX4_bits 12 = .ok (.iload_n 3, 1) := by decide +kernel
theorem dX4_bits_13 : decode cX4_bits 13 = .ok (.lshl, 1) := by decide +kernel
theorem dX4_bits_14 : decode cX4_bits 14 = .ok (.lconst 1, 1) := by decide +kernel
theorem dX4_bits_15 : decode cX4_bits 15 = .ok (.lsub, 1) := by decide +kernel
theorem dX4_bits_16 : decode cX4_bits 16 = .ok (.land, 1) := by decide +kernel
theorem dX4_bits_17 : decode cX4_bits 17 = .ok (.l2i, 1) := by decide +kernel
theorem dX4_bits_18 : decode cX4_bits 18 = .ok (.istore 7, 2) := by decide +kernel
theorem dX4_bits_20 : decode cX4_bits 20 = .ok (.aload_n 0, 1) := by decide +kernel
theorem dX4_bits_21 : decode cX4_bits 21 = .ok (.iload 7, 2) := by decide +kernel
theorem dX4_bits_23 : decode cX4_bits 23 = .ok (.bipush 10, 2) := by decide +kernel
theorem dX4_bits_25 : decode cX4_bits 25 = .ok (.if_icmp .ge 11, 3) := by decide +kernel
theorem dX4_bits_28 : decode cX4_bits 28 = .ok (.bipush 48, 2) := by decide +kernel
theorem dX4_bits_30 : decode cX4_bits 30 = .ok (.iload 7, 2) := by decide +kernel
theorem dX4_bits_32 : decode cX4_bits 32 = .ok (.iadd, 1) := by decide +kernel
theorem dX4_bits_33 : decode cX4_bits 33 = .ok (.goto 11, 3) := by decide +kernel
theorem dX4_bits_36 : decode cX4_bits 36 = .ok (.iload 4, 2) := by decide +kernel
theorem dX4_bits_38 : decode cX4_bits 38 = .ok (.iload 7, 2) := by decide +kernel
theorem dX4_bits_40 : decode cX4_bits 40 = .ok (.iadd, 1) := by decide +kernel
theorem dX4_bits_41 : decode cX4_bits 41 = .ok (.bipush 10, 2) := by decide +kernel
theorem dX4_bits_43 : decode cX4_bits 43 = .ok (.isub, 1) := by decide +kernel
theorem dX4_bits_44 : decode cX4_bits 44 = .ok (.invokevirtual 53, 3) := by decide +kernel
theorem dX4_bits_47 : decode cX4_bits 47 = .ok (.lload 5, 2) := by decide +kernel
theorem dX4_bits_49 : decode cX4_bits 49 = .ok (.iload_n 3, 1) := by decide +kernel
theorem dX4_bits_50 : decode cX4_bits 50 = .ok (.lushr, 1) := by decide +kernel
theorem dX4_bits_51 : decode cX4_bits 51 = .ok (.lstore 5, 2) := by decide +kernel
theorem dX4_bits_53 : decode cX4_bits 53 = .ok (.lload 5, 2) := by decide +kernel
theorem dX4_bits_55 : decode cX4_bits 55 = .ok (.lconst 0, 1) := by decide +kernel
theorem dX4_bits_56 : decode cX4_bits 56 = .ok (.lcmp, 1) := by decide +kernel
theorem dX4_bits_57 : decode cX4_bits 57 = .ok (.ifCond .ne (-48), 3) := by decide +kernel
theorem dX4_bits_60 : decode cX4_bits 60 = .ok (.return_, 1) := by decide +kernel
theorem dX4_madeAt_0 : decode cX4_madeAt 0 = .ok (.iload_n 1, 1) := by decide +kernel
theorem dX4_madeAt_1 : decode cX4_madeAt 1 = .ok (.ifCond .lt 24, 3) := by decide +kernel
theorem dX4_madeAt_4 : decode cX4_madeAt 4 = .ok (.iload_n 1, 1) := by decide +kernel
theorem dX4_madeAt_5 : decode cX4_madeAt 5 = .ok (.aload_n 0, 1) := by decide +kernel
theorem dX4_madeAt_6 : decode cX4_madeAt 6 = .ok (.getfield 126, 3) := by decide +kernel
theorem dX4_madeAt_9 : decode cX4_madeAt 9 = .ok (.if_icmp .ge 16, 3) := by decide +kernel
theorem dX4_madeAt_12 : decode cX4_madeAt 12 = .ok (.aload_n 0, 1) := by decide +kernel
theorem dX4_madeAt_13 : decode cX4_madeAt 13 = .ok (.getfield 19, 3) := by decide +kernel
theorem dX4_madeAt_16 : decode cX4_madeAt 16 = .ok (.iload_n 1, 1) := by decide +kernel
theorem dX4_madeAt_17 : decode cX4_madeAt 17 = .ok (.baload, 1) := by decide +kernel
theorem dX4_madeAt_18 : decode cX4_madeAt 18 = .ok (.sipush 255, 3) := by decide +kernel
theorem dX4_madeAt_21 : decode cX4_madeAt 21 = .ok (.iand, 1) := by decide +kernel
theorem dX4_madeAt_22 : decode cX4_madeAt 22 = .ok (.goto 4, 3) := by decide +kernel
theorem dX4_madeAt_25 : decode cX4_madeAt 25 = .ok (.iconst (-1), 1) := by decide +kernel
theorem dX4_madeAt_26 : decode cX4_madeAt 26 = .ok (.ireturn, 1) := by decide +kernel
end
section
/-! the reference: cell 52 the object, 53 tape, 54 text, 55 words, 56 out, 57 word sizes, 58 piece -/
def sB (b : Nat) : Int32 := (nI b).toInt8.toInt32
theorem sB_lo : ∀ b, b < 128 → sB b = nI b := by decide +kernel
theorem sB_hi : ∀ b, b < 128 → sB (b + 128) < 0 := by decide +kernel
theorem sB_neg {b : Nat} (h : b < 256) (h2 : 128 ≤ b) : sB b < 0 := by
  have := sB_hi (b - 128) (by omega)
  rwa [show b - 128 + 128 = b by omega] at this
theorem sB_iff {b k : Nat} (h : b < 256) (hk : k < 128) : sB b = nI k ↔ b = k := by
  by_cases h2 : b < 128
  · rw [sB_lo b h2]
    exact nI_eq (by omega) (by omega)
  · refine ⟨fun e => ?_, fun e => by omega⟩
    have h3 := sB_neg h (by omega)
    rw [e] at h3
    exact absurd h3 (nI_pos (by omega))
theorem sB_and : ∀ b, b < 256 → sB b &&& 255 = nI b := by decide +kernel
theorem sB_by8 : ∀ b, b < 256 → by8 (sB b) = b := by decide +kernel
theorem i8_by8 (z : Int32) : z.toInt8.toInt32 = sB (by8 z) := by
  unfold sB by8
  apply Int32.toBitVec_inj.mp
  show (z.toBitVec.signExtend 8).signExtend 32 = ((Int32.ofNat (z.toBitVec.toNat % 256)).toBitVec.signExtend 8).signExtend 32
  congr 1
  apply BitVec.eq_of_toNat_eq
  rw [BitVec.signExtend_eq_setWidth_of_le _ (by decide), BitVec.signExtend_eq_setWidth_of_le _ (by decide), BitVec.toNat_setWidth, BitVec.toNat_setWidth]
  show _ = (BitVec.ofNat 32 (z.toBitVec.toNat % 256)).toNat % 2 ^ 8
  rw [BitVec.toNat_ofNat]
  omega
theorem nar_sB (b : Nat) : vp_nar .byte (sB b) = sB b := pk_vb (nI b)
def rO (ad : Nat → Nat) (x0 x1 x2 x3 x4 x5 x6 x7 x8 x9 x10 x11 x12 : Int32) (v : Int64) : va_E :=
  .inr (tCR, [.ref (ad 53), .ref (ad 54), .ref (ad 55), .ref (ad 56), .int x0, .int x1, .int x2, .int x3, .int x4, .ref (ad 57), .int x5, .int x6, .int x7, .int x8, .int x9, .int x10, .int x11, .ref (ad 58), .int x12, .long v])
/-- a byte array holds a text from a place on -/
def tB (ca : Nat → ClassId) (c : Nat → va_E) (k cap off : Nat) (t : List Nat) : Prop :=
  off + t.length ≤ cap ∧ cap < 1048576 ∧ (∀ x ∈ t, x < 256) ∧ ∃ f : Nat → Int32, c k = .inl (ca 2, cap, .inl f) ∧ ∀ j, j < t.length → f (off + j) = sB (t.getD j 0)
theorem tB.keep {ca : Nat → ClassId} {c c' : Nat → va_E} {k cap off : Nat} {t : List Nat} (h : tB ca c k cap off t) (h1 : c' k = c k) : tB ca c' k cap off t := by
  obtain ⟨a, b, d, f, e, g⟩ := h
  exact ⟨a, b, d, f, h1.trans e, g⟩
theorem tB.nil {ca : Nat → ClassId} {c : Nat → va_E} {k cap off : Nat} {f : Nat → Int32} (h : c k = .inl (ca 2, cap, .inl f)) (h1 : off ≤ cap) (h2 : cap < 1048576) : tB ca c k cap off [] := ⟨h1, h2, by simp, f, h, by simp⟩
theorem tB.pre {ca : Nat → ClassId} {c c' : Nat → va_E} {k cap off b : Nat} {t : List Nat} {f : Nat → Int32} (h : tB ca c k cap (off + 1) t) (hf : c k = .inl (ca 2, cap, .inl f)) (hb : b < 256) (h1 : c' k = .inl (ca 2, cap, .inl (upd f off (sB b)))) : tB ca c' k cap off (b :: t) := by
  obtain ⟨a, b1, d, f1, e, g⟩ := h
  have hff : f1 = f := by
    have := e.symm.trans hf
    simp at this
    exact this
  subst hff
  refine ⟨by simp only [List.length_cons]; omega, b1, ?_, _, h1, ?_⟩
  · intro x hx
    rcases List.mem_cons.mp hx with h | h
    · rw [h]; exact hb
    · exact d x h
  · intro j hj
    rcases j with _ | j
    · rw [Nat.add_zero, pk_us]; rfl
    · rw [pk_un (by omega)]
      have := g j (by simp only [List.length_cons] at hj; omega)
      rw [show off + (j + 1) = off + 1 + j by omega, this]
      rfl
theorem tB.app {ca : Nat → ClassId} {c c' : Nat → va_E} {k cap off b : Nat} {t : List Nat} {f : Nat → Int32} (h : tB ca c k cap off t) (hf : c k = .inl (ca 2, cap, .inl f)) (hb : b < 256) (hr : off + t.length < cap) (h1 : c' k = .inl (ca 2, cap, .inl (upd f (off + t.length) (sB b)))) : tB ca c' k cap off (t ++ [b]) := by
  obtain ⟨a, b1, d, f1, e, g⟩ := h
  have hff : f1 = f := by
    have := e.symm.trans hf
    simp at this
    exact this
  subst hff
  refine ⟨by simp only [List.length_append, List.length_cons, List.length_nil]; omega, b1, tb_app d hb, _, h1, ?_⟩
  intro j hj
  by_cases h : j = t.length
  · subst h
    rw [pk_us, List.getD_eq_getElem?_getD, List.getElem?_append_right (Nat.le_refl _), Nat.sub_self]
    rfl
  · have hj2 : j < t.length := by simp only [List.length_append, List.length_cons, List.length_nil] at hj; omega
    rw [pk_un (by omega), g j hj2, List.getD_eq_getElem?_getD, List.getD_eq_getElem?_getD, List.getElem?_append_left hj2]
theorem tB.take {ca : Nat → ClassId} {c : Nat → va_E} {k cap off j : Nat} {t : List Nat} (h : tB ca c k cap off t) : tB ca c k cap off (t.take j) := by
  obtain ⟨a, b, d, f, e, g⟩ := h
  refine ⟨by rw [List.length_take]; omega, b, fun y hy => d y (List.mem_of_mem_take hy), f, e, fun i hi => ?_⟩
  rw [List.length_take] at hi
  rw [g i (by omega), tk_getD (by omega)]
theorem tB.le {ca : Nat → ClassId} {c : Nat → va_E} {k cap off : Nat} {t : List Nat} (h : tB ca c k cap off t) : off + t.length ≤ cap := h.1
theorem tB.b8 {ca : Nat → ClassId} {c : Nat → va_E} {k cap off : Nat} {t : List Nat} (h : tB ca c k cap off t) : ∀ x ∈ t, x < 256 := h.2.2.1
theorem dgF_trim {dig ch : Nat → Nat} {n : Nat} (h : dig n ≠ 0 ∨ n = 0) : ∀ E, n < E → (∀ e, n < e → e < E → dig e = 0) → dgF dig ch E false = dgF dig ch (n + 1) true
  | 0, hn, _ => absurd hn (by omega)
  | E + 1, hn, hz => by
    by_cases hE : E = n
    · subst hE
      rw [dgF_t (Or.inr h), dgF_t (Or.inl rfl)]
    · rw [dgF_f rfl (hz E (by omega) (by omega)) (by omega)]
      exact dgF_trim h E (by omega) (fun e h1 h2 => hz e h1 (by omega))
theorem dgF_full {dig ch : Nat → Nat} : ∀ e, (dgF dig ch e true).length = e
  | 0 => rfl
  | e + 1 => by rw [dgF_t (Or.inl rfl), List.length_cons, dgF_full e]
theorem dg_rem {z r d : Int64} {i : Nat} (hr : r.toInt.natAbs = z.toInt.natAbs / 10 ^ i) (hd : d = r - r / 10 * 10) : (0 ≤ d → d.toInt32 = nI (dDig z i)) ∧ (¬ 0 ≤ d → (-d).toInt32 = nI (dDig z i)) := by
  have h10 : (10 : Int64).toInt = 10 := by decide
  have hqq := i64_div_toInt (a := r) (b := 10) (by decide)
  rw [h10] at hqq
  have hm : d.toInt = r.toInt.tmod 10 := by
    rw [hd, Int64.toInt_sub, Int64.toInt_mul, h10, hqq]
    have h1 := Int.tmod_add_mul_tdiv r.toInt 10
    have h2 : (r.toInt.tmod 10).natAbs < 10 := by rw [Int.natAbs_tmod]; exact Nat.mod_lt _ (by decide)
    have h3 := Int64.le_toInt r
    have h4 := Int64.toInt_lt r
    have h7 : (r.toInt.tdiv 10).natAbs = r.toInt.natAbs / 10 := by rw [Int.natAbs_tdiv]; rfl
    have h5 : (r.toInt.tdiv 10 * 10).bmod (2 ^ 64) = r.toInt.tdiv 10 * 10 := by
      apply Int.bmod_eq_of_le
      · omega
      · omega
    rw [h5]
    have h6 : r.toInt - r.toInt.tdiv 10 * 10 = r.toInt.tmod 10 := by omega
    rw [h6]
    apply Int.bmod_eq_of_le
    · omega
    · omega
  have hdd : dDig z i = (r.toInt.tmod 10).natAbs := by
    rw [Int.natAbs_tmod, hr]
    rfl
  have hlt : (r.toInt.tmod 10).natAbs < 10 := by rw [← hdd]; exact dDig_lt z i
  have h0 : (0 : Int64).toInt = 0 := by decide
  constructor
  · intro h
    have h9 := Int64.le_iff_toInt_le.mp h
    rw [hm, h0] at h9
    apply Int32.toInt_inj.mp
    rw [nI_toInt (by rw [hdd]; omega), hdd, Int64.toInt_toInt32, hm]
    rw [Int.bmod_eq_of_le (by omega) (by omega)]
    omega
  · intro h
    have h9 : ¬ (0 : Int64).toInt ≤ d.toInt := fun q => h (Int64.le_iff_toInt_le.mpr q)
    rw [hm, h0] at h9
    apply Int32.toInt_inj.mp
    rw [nI_toInt (by rw [hdd]; omega), hdd, Int64.toInt_toInt32, Int64.toInt_neg, hm]
    rw [Int.bmod_eq_of_le (n := -r.toInt.tmod 10) (by omega) (by omega), Int.bmod_eq_of_le (by omega) (by omega)]
    omega
theorem dg_div {z r r2 : Int64} {i : Nat} (hr : r.toInt.natAbs = z.toInt.natAbs / 10 ^ i) (h2 : r2 = r / 10) : r2.toInt.natAbs = z.toInt.natAbs / 10 ^ (i + 1) := by
  have hqq := i64_div_toInt (a := r) (b := 10) (by decide)
  rw [h2, hqq, Int.natAbs_tdiv, hr, Nat.pow_succ, ← Nat.div_div_eq_div_mul]
  rfl
theorem dg_nz {z r : Int64} {i : Nat} (hr : r.toInt.natAbs = z.toInt.natAbs / 10 ^ i) (h : ¬ r = 0) : z.toInt.natAbs / 10 ^ i ≠ 0 := by
  rw [← hr]
  intro q
  apply h
  apply Int64.toInt_inj.mp
  have h0 : (0 : Int64).toInt = 0 := by decide
  omega
theorem dg_lt {z : Int64} {i : Nat} (h : z.toInt.natAbs / 10 ^ i ≠ 0) : i ≤ 18 := by
  rcases Nat.lt_or_ge i 19 with h1 | h1
  · omega
  · exfalso
    apply h
    apply Nat.div_eq_of_lt
    have h3 := Int64.le_toInt z
    have h4 := Int64.toInt_lt z
    have h5 : 10 ^ 19 ≤ 10 ^ i := Nat.pow_le_pow_right (by decide) h1
    omega
theorem dg_trim {z : Int64} {i : Nat} (h : z.toInt.natAbs / 10 ^ (i + 1) = 0) (hi : i < 19) (hn : i = 0 ∨ z.toInt.natAbs / 10 ^ i ≠ 0) : tDec z = dgF (dDig z) dCh (i + 1) true := by
  apply dgF_trim
  · rcases hn with h1 | h1
    · exact Or.inr h1
    · refine Or.inl ?_
      unfold dDig
      rw [Nat.pow_succ, ← Nat.div_div_eq_div_mul] at h
      omega
  · exact hi
  · intro e h1 h2
    unfold dDig
    have h3 : z.toInt.natAbs < 10 ^ (i + 1) := by
      rcases Nat.lt_or_ge z.toInt.natAbs (10 ^ (i + 1)) with q | q
      · exact q
      · have := Nat.div_pos q (Nat.pow_pos (by decide))
        omega
    have h4 : 10 ^ (i + 1) ≤ 10 ^ e := Nat.pow_le_pow_right (by decide) (by omega)
    rw [Nat.div_eq_of_lt (by omega)]

theorem bg_rem {z r : Int64} {bt i : Nat} {y3 : Int32} (hb : bt = 3 ∨ bt = 4) (hr : uN r = uN z / 2 ^ (i * bt)) (h3 : y3 = nI bt) : (r &&& ((1 <<< (y3.toInt64 &&& 63)) - 1)).toInt32 = nI (bDig z bt i) := by
  have hm : ((1 : Int64) <<< (y3.toInt64 &&& 63)) - 1 = lN (2 ^ bt - 1) := by
    rw [h3]
    rcases hb with rfl | rfl <;> decide
  rw [hm]
  have h1 : uN (r &&& lN (2 ^ bt - 1)) = uN r % 2 ^ bt := by
    show (r.toUInt64 &&& (lN (2 ^ bt - 1)).toUInt64).toNat = _
    rw [UInt64.toNat_and]
    have e : (lN (2 ^ bt - 1)).toUInt64.toNat = 2 ^ bt - 1 := by
      rcases hb with rfl | rfl <;> decide
    rw [e, Nat.and_two_pow_sub_one_eq_mod]
    rfl
  have h2 : (r &&& lN (2 ^ bt - 1)).toInt32.toBitVec.toNat = bDig z bt i := by
    rw [l2i_nat, h1, hr]
    unfold bDig
    rcases hb with rfl | rfl <;> omega
  apply Int32.toBitVec_inj.mp
  apply BitVec.eq_of_toNat_eq
  rw [h2, pk_tn (by have := bDig_lt z (bt := bt) (by omega) i; omega)]
theorem bg_div {z r r2 : Int64} {bt i : Nat} {y3 : Int32} (hb : bt = 3 ∨ bt = 4) (hr : uN r = uN z / 2 ^ (i * bt)) (h3 : y3 = nI bt) (h2 : r2 = (r.toUInt64 >>> ((y3 : Int32).toInt64.toUInt64 &&& Int64.toUInt64 63)).toInt64) : uN r2 = uN z / 2 ^ ((i + 1) * bt) := by
  rw [h2, h3, uN_sk r (by omega), hr, Nat.div_div_eq_div_mul, ← Nat.pow_add]
  congr 2
  rw [Nat.add_mul]
  omega
theorem bg_lt {z : Int64} {bt mo i : Nat} (hb : bt = 3 ∧ mo = 22 ∨ bt = 4 ∧ mo = 16) (h : uN z / 2 ^ (i * bt) ≠ 0) : i < mo := by
  rcases Nat.lt_or_ge i mo with h1 | h1
  · exact h1
  · exfalso
    apply h
    apply Nat.div_eq_of_lt
    have h3 := uN_lt z
    have h5 : 2 ^ 64 ≤ 2 ^ (i * bt) := Nat.pow_le_pow_right (by decide) (by rcases hb with ⟨rfl, rfl⟩ | ⟨rfl, rfl⟩ <;> omega)
    omega
theorem bg_trim {z : Int64} {bt mo lb i : Nat} (hb : bt = 3 ∨ bt = 4) (h : uN z / 2 ^ ((i + 1) * bt) = 0) (hi : i < mo) (hn : i = 0 ∨ uN z / 2 ^ (i * bt) ≠ 0) : tBits z mo bt lb = dgF (bDig z bt) (bCh lb) (i + 1) true := by
  apply dgF_trim
  · rcases hn with h1 | h1
    · exact Or.inr h1
    · refine Or.inl ?_
      unfold bDig
      rw [Nat.add_mul, Nat.pow_add, ← Nat.div_div_eq_div_mul] at h
      rcases hb with rfl | rfl <;> omega
  · exact hi
  · intro e h1 h2
    unfold bDig
    have h3 : uN z < 2 ^ ((i + 1) * bt) := by
      rcases Nat.lt_or_ge (uN z) (2 ^ ((i + 1) * bt)) with q | q
      · exact q
      · have := Nat.div_pos q (Nat.pow_pos (by decide))
        omega
    have h4 : 2 ^ ((i + 1) * bt) ≤ 2 ^ (e * bt) := Nat.pow_le_pow_right (by decide) (Nat.mul_le_mul_right bt (by omega))
    rw [Nat.div_eq_of_lt (by omega)]
    rfl
def hexF (x : Int32) : Int32 := if 48 ≤ x ∧ x ≤ 57 then x - 48 else if 97 ≤ x ∧ x ≤ 102 then x - 97 + 10 else if 65 ≤ x ∧ x ≤ 70 then x - 65 + 10 else -1
theorem hexF_sB : ∀ b, b < 256 → hexF (sB b) = hxI b := by decide +kernel
def hxG (b : Nat) : Bool := (hxD b).isSome
theorem hxG_some {b : Nat} (h : hxG b = true) : ∃ d, hxD b = some d := Option.isSome_iff_exists.mp h
theorem hxG_none {b : Nat} (h : hxG b = false) : hxD b = none := by
  unfold hxG at h
  cases h9 : hxD b with
  | none => rfl
  | some d => rw [h9] at h; cases h
theorem hxG_t {b : Nat} (h : ¬ hxI b = -1) : hxG b = true := by
  cases h9 : hxG b with
  | true => rfl
  | false => exact absurd (hxI_f (hxG_none h9)) h
theorem hxG_f {b : Nat} (h : hxI b = -1) : hxG b = false := by
  cases h9 : hxG b with
  | false => rfl
  | true =>
    obtain ⟨d, hd⟩ := hxG_some h9
    rw [hxI_t hd] at h
    exact absurd h (nI_ne_m1 (by have := hxD_lt hd; omega))

def dcG (v : Int64) (d : Int32) : Bool := decide (0 ≤ d ∧ d ≤ 9 ∧ -922337203685477580 ≤ v ∧ -9223372036854775808 + d.toInt64 ≤ 10 * v)
theorem dc_dig : ∀ b, b < 256 → ((0 ≤ sB b - 48 ∧ sB b - 48 ≤ 9) ↔ isDg b = true) := by decide +kernel
theorem dc_val {b : Nat} (h : isDg b = true) : sB b - 48 = nI (b - 48) := by
  have := isDg_le h
  rw [sB_lo b (by omega)]
  exact pk_sub (b := 48) this.1
theorem dc_step {b : Nat} {s : List Nat} {v : Int64} {d : Int32} (hb : b < 256) (hd : d = sB b - 48) : gRd (b :: s) v = if dcG v d = true then gRd s (10 * v - d.toInt64) else none := by
  show (if isDg b = true then _ else _) = _
  by_cases h : isDg b = true
  · rw [if_pos h]
    have hd2 := (dc_dig b hb).mpr h
    rw [← hd] at hd2
    rw [← dc_val h, ← hd]
    unfold gTake
    by_cases h2 : v < -922337203685477580 ∨ v * 10 < -9223372036854775808 + d.toInt64
    · rw [if_pos h2, if_neg]
      intro q
      have q := of_decide_eq_true q
      rcases h2 with h2 | h2
      · exact absurd q.2.2.1 (Int64.not_le.mpr h2)
      · rw [Int64.mul_comm] at h2
        exact absurd q.2.2.2 (Int64.not_le.mpr h2)
    · rw [if_neg h2, if_pos]
      · show gRd s (v * 10 - d.toInt64) = _
        rw [Int64.mul_comm]
      · apply decide_eq_true
        refine ⟨hd2.1, hd2.2, Int64.not_lt.mp (fun q => h2 (Or.inl q)), Int64.not_lt.mp (fun q => h2 (Or.inr ?_))⟩
        rw [Int64.mul_comm]
        exact q
  · rw [if_neg h, if_neg]
    intro q
    have q := of_decide_eq_true q
    rw [hd] at q
    exact h ((dc_dig b hb).mp ⟨q.1, q.2.1⟩)
theorem tAt_sB {t : List Nat} {i k : Nat} (hb : ∀ x ∈ t, x < 256) (hi : i < t.length) (hk : k < 128) : tAt t i = nI k ↔ sB (t.getD i 0) = nI k := by
  have e : tAt t i = nI (t.getD i 0) := if_pos hi
  have hb8 := hb _ (gD_mem hi)
  rw [e, sB_iff hb8 hk]
  exact nI_eq (by omega) (by omega)
theorem fr_le {t : List Nat} : (if tAt t 0 = 45 ∨ tAt t 0 = 43 then 1 else 0) ≤ t.length ∧ (if tAt t 0 = 45 ∨ tAt t 0 = 43 then 1 else 0) ≤ 1 := by
  split
  · next h =>
    refine ⟨?_, Nat.le_refl _⟩
    rcases Nat.lt_or_ge 0 t.length with h1 | h1
    · exact h1
    · rw [show tAt t 0 = -1 from if_neg (by omega)] at h
      exact absurd h (by decide)
  · exact ⟨Nat.zero_le _, Nat.zero_le _⟩
/-- the words: 40 bytes a place, and their sizes -/
def tWd (ca : Nat → ClassId) (c : Nat → va_E) (ar : Nat → List Nat) (ac : Nat) : Prop :=
  ∃ (f g : Nat → Int32), c 55 = .inl (ca 2, 800, .inl f) ∧ c 57 = .inl (ca 0, 20, .inl g) ∧ ∀ i, i < ac → g i = nI (ar i).length ∧ (ar i).length ≤ 40 ∧ (∀ x ∈ ar i, x < 256) ∧ ∀ j, j < (ar i).length → f (40 * i + j) = sB ((ar i).getD j 0)
theorem tWd.keep {ca : Nat → ClassId} {c c' : Nat → va_E} {ar : Nat → List Nat} {ac : Nat} (h : tWd ca c ar ac) (h1 : c' 55 = c 55) (h2 : c' 57 = c 57) : tWd ca c' ar ac := by
  obtain ⟨f, g, a, b, d⟩ := h
  exact ⟨f, g, h1.trans a, h2.trans b, d⟩

/-! places, as the reference reads them -/
def tAs (t : List Nat) (i : Nat) : Int32 := if i < t.length then sB (t.getD i 0) else -1
def tAz (t : List Nat) (i : Nat) : Int32 := if i < t.length then sB (t.getD i 0) else 0
theorem fl_fin {ad : Nat → Nat} {x0 x1 x2 x3 x4 x5 x6 x7 x12 y : Int32} {v : Int64} {f : fl4} {t : List Nat} {i : Nat} {e : va_E} (hb : ∀ x ∈ t, x < 256) (_hi : i ≤ t.length) (hy : tAs t i = y) (he : e = rO ad x0 x1 x2 x3 x4 x5 x6 x7 (bI (f.1 || decide (y = 45))) (bI (f.2.1 || decide (y = 48))) (bI (f.2.2.1 || decide (y = 43))) (bI (f.2.2.2 || decide (y = 32))) x12 v) :
    (i < t.length ∧ ∃ f', pFlag (t.getD i 0) f = some f' ∧ bI (decide (y = 45 ∨ y = 48 ∨ y = 43 ∨ y = 32)) = 1 ∧ e = rO ad x0 x1 x2 x3 x4 x5 x6 x7 (bI f'.1) (bI f'.2.1) (bI f'.2.2.1) (bI f'.2.2.2) x12 v) ∨ (¬ (i < t.length ∧ ∃ f', pFlag (t.getD i 0) f = some f') ∧ bI (decide (y = 45 ∨ y = 48 ∨ y = 43 ∨ y = 32)) = 0 ∧ e = rO ad x0 x1 x2 x3 x4 x5 x6 x7 (bI f.1) (bI f.2.1) (bI f.2.2.1) (bI f.2.2.2) x12 v) := by
  by_cases hlt : i < t.length
  · have hb8 := hb _ (gD_mem hlt)
    have hys : y = sB (t.getD i 0) := by rw [← hy]; exact if_pos hlt
    have key : ∀ k : Nat, k < 128 → (y = nI k ↔ t.getD i 0 = k) := fun k hk => by rw [hys]; exact sB_iff hb8 hk
    have k45 : y = 45 ↔ t.getD i 0 = 45 := key 45 (by decide)
    have k48 : y = 48 ↔ t.getD i 0 = 48 := key 48 (by decide)
    have k43 : y = 43 ↔ t.getD i 0 = 43 := key 43 (by decide)
    have k32 : y = 32 ↔ t.getD i 0 = 32 := key 32 (by decide)
    simp only [k45, k48, k43, k32] at he ⊢
    generalize t.getD i 0 = b at he ⊢
    by_cases h45 : b = 45
    · subst h45
      refine Or.inl ⟨hlt, (true, f.2.1, f.2.2.1, f.2.2.2), rfl, by decide, ?_⟩
      rw [he]
      simp
    · by_cases h48 : b = 48
      · subst h48
        refine Or.inl ⟨hlt, (f.1, true, f.2.2.1, f.2.2.2), rfl, by decide, ?_⟩
        rw [he]
        simp
      · by_cases h43 : b = 43
        · subst h43
          refine Or.inl ⟨hlt, (f.1, f.2.1, true, f.2.2.2), rfl, by decide, ?_⟩
          rw [he]
          simp
        · by_cases h32 : b = 32
          · subst h32
            refine Or.inl ⟨hlt, (f.1, f.2.1, f.2.2.1, true), rfl, by decide, ?_⟩
            rw [he]
            simp
          · refine Or.inr ⟨?_, by simp [h45, h48, h43, h32, bI], ?_⟩
            · rintro ⟨-, f', hf⟩
              unfold pFlag at hf
              rw [if_neg h45, if_neg h48, if_neg h43, if_neg h32] at hf
              cases hf
            · rw [he]
              simp [h45, h48, h43, h32]
  · have hys : y = -1 := by rw [← hy]; exact if_neg hlt
    subst hys
    refine Or.inr ⟨fun h => hlt h.1, by decide, ?_⟩
    rw [he]
    simp only [show decide ((-1 : Int32) = 45) = false from by decide, show decide ((-1 : Int32) = 48) = false from by decide, show decide ((-1 : Int32) = 43) = false from by decide, show decide ((-1 : Int32) = 32) = false from by decide, Bool.or_false]
theorem sd_t {b : Nat} (hb : b < 256) (h1 : (48 : Int32) ≤ sB b) (h2 : sB b ≤ 57) : isDg b = true := by
  by_cases h : b < 128
  · rw [sB_lo b h] at h1 h2
    exact isDg_t hb h1 h2
  · exact absurd (sB_neg hb (by omega)) (Int32.not_lt.mpr (Int32.le_trans (by decide) h1))
theorem sd_f {b : Nat} (hb : b < 256) (h : ¬ ((48 : Int32) ≤ sB b ∧ sB b ≤ 57)) : isDg b = false := by
  by_cases h2 : b < 128
  · rw [sB_lo b h2] at h
    exact isDg_f hb h
  · simp only [isDg, Bool.and_eq_false_iff, decide_eq_false_iff_not]
    omega
def kdB (x : Int32) : Bool := decide (x = 100 ∨ x = 120 ∨ x = 88 ∨ x = 111 ∨ x = 99 ∨ x = 115 ∨ x = 37)
theorem kdB_sB : ∀ b, b < 256 → kdB (sB b) = isKd b := by decide +kernel
theorem kz_cases {t : List Nat} {i : Nat} (hb : ∀ x ∈ t, x < 256) : kdB (tAz t i) = true ↔ (i < t.length ∧ isKd (t.getD i 0) = true) := by
  by_cases h : i < t.length
  · rw [show tAz t i = sB (t.getD i 0) from if_pos h, kdB_sB _ (hb _ (gD_mem h))]
    exact ⟨fun q => ⟨h, q⟩, fun q => q.2⟩
  · rw [show tAz t i = 0 from if_neg h]
    exact ⟨fun q => absurd q (by decide), fun q => absurd q.1 h⟩
end
section
set_option maxHeartbeats 4000000 in
set_option maxRecDepth 100000 in
/-- ahead(y) -/
theorem c_ahead (l : Launch) (D : va_G) (ca : Nat → ClassId) (n : Nat) (ad : Nat → Nat) (c : Nat → va_E) {x0 x1 x2 x3 x4 x5 x6 x7 x8 x9 x10 x11 x12 : Int32} {v : Int64} (hn : 59 ≤ n) (hO : c 52 = rO ad x0 x1 x2 x3 x4 x5 x6 x7 x8 x9 x10 x11 x12 v) (y : Int32) (p : Nat) {t : List Nat} (hx12 : x12 = nI (p + 1)) (hB : tB ca c 58 72 (p + 1) t) : mVoid l yX4_ahead wsX4_ahead ({ frames := 0, cells := 0, slots := 0, locals := 0 }) [.ref (ad 52), .int y] D (tTY ca) n ad c (fun c' => c' 52 = rO ad x0 x1 x2 x3 x4 x5 x6 x7 x8 x9 x10 x11 (nI p) v ∧ tB ca c' 58 72 p (by8 y :: t) ∧ ∀ j, j ≠ 52 → j ≠ 58 → c' j = c j) := by
  intro sz
  refine Met.ofW (cc := cX4_ahead) (maxL := 2) (ret := none) (by decide) rfl ?_
  intro pg9 ev9 s m args below meth cd s₁ B hml hv
  obtain ⟨rfl, hsz, hP, hK, hD0, hN⟩ := hv
  have hx := B.exec
  have hb := B.bytes
  have hr := B.returns
  have hts := fun (w : Cond) (h : w ∈ WSa) => atoms_spec (ws := wsX4_ahead) B.pre w (List.mem_cons_of_mem _ h)
  have hown : s.vm.findClass RX4 = some m.cls := findClass_of_methodNamed B.named
  have hlocks := B.notSynchronized
  subst hsz
  have hD : ∀ c, va_D (fun _ => True) (mw n ad c) := fun c' => mw_D hD0 c'
  have hS : va_S (mA n ad s.heap.size) s.heap s.heap [] := va_S.rf
  have hl := lv_entry ([.ref (ad 52), .int y]) (n := 2) (Nat.le_of_ble_eq_true rfl)
  rw [lg_entry_eq]
  generalize (lg_sl ([.ref (ad 52), .int y]) ++ List.replicate (2 - (lg_sl ([.ref (ad 52), .int y])).length) Slot.unset).toArray = ls at hl ⊢
  have hl : lv_has ls 2 [(0, .ref (ad 52)), (1, .int y)] := hl
  obtain ⟨hle, hcp, hby, f, h58, hf⟩ := id hB
  refine lv_aload_n hx hb dX4_ahead_0 rfl (lv_at hl 0 rfl) ?_
  refine lv_dup hx hb dX4_ahead_1 rfl ?_
  refine mx_get (ci := 4) (v := .int x12) (C := RX4) (T := TX4) (N := 20) hx hb hts inX4 hown hK hP (by omega : 52 < n) hO rfl 18 (by decide) (hts _ wm_286) (fun _ h9 => h9) rfl dX4_ahead_2 ?_
  refine lv_iconst (v := 1) hx hb dX4_ahead_5 (by decide) ?_
  refine lv_isub hx hb dX4_ahead_6 ?_
  refine mx_i (nI p) (by rw [hx12]; exact nI_pred p) ?_
  refine mx_put (ci := 4) (v := .int (nI p)) (ty := .int) (C := RX4) (T := TX4) (N := 20) hx hb hts inX4 tyX4 tyX4_ok nmX4 hown hK hP hD hS (by omega : 52 < n) hO rfl 18 (by decide) (hts _ wm_286) (fun _ h9 => h9) rfl (by decide +kernel) rfl rfl (Nat.le_of_ble_eq_true rfl) dX4_ahead_7 (fun H locs hP hS => ?_)
  obtain ⟨c1, ec1⟩ : ∃ z : Nat → va_E, z = va_up c 52 (.inr (4, [.ref (ad 53), .ref (ad 54), .ref (ad 55), .ref (ad 56), .int x0, .int x1, .int x2, .int x3, .int x4, .ref (ad 57), .int x5, .int x6, .int x7, .int x8, .int x9, .int x10, .int x11, .ref (ad 58), .int (nI p), .long v])) := ⟨_, rfl⟩
  have hP : va_P D vwCl (mw n ad c1) H := by rw [ec1]; exact hP
  have hsc1 : ∀ j, j ≠ 52 → c1 j = c j := fun j h => by rw [ec1]; exact va_up_ne _ _ h
  have hcc1 : c1 52 = .inr (4, [.ref (ad 53), .ref (ad 54), .ref (ad 55), .ref (ad 56), .int x0, .int x1, .int x2, .int x3, .int x4, .ref (ad 57), .int x5, .int x6, .int x7, .int x8, .int x9, .int x10, .int x11, .ref (ad 58), .int (nI p), .long v]) := by rw [ec1]; exact va_up_self _ _ _
  have h58 := (hsc1 58 (by omega)).trans h58
  refine lv_aload_n hx hb dX4_ahead_10 rfl (lv_at hl 0 rfl) ?_
  refine mx_get (ci := 4) (v := .ref (ad 58)) (C := RX4) (T := TX4) (N := 20) hx hb hts inX4 hown hK hP (by omega : 52 < n) hcc1 rfl 17 (by decide) (hts _ wm_285) (fun _ h9 => h9) rfl dX4_ahead_11 ?_
  refine lv_aload_n hx hb dX4_ahead_14 rfl (lv_at hl 0 rfl) ?_
  refine mx_get (ci := 4) (v := .int (nI p)) (C := RX4) (T := TX4) (N := 20) hx hb hts inX4 hown hK hP (by omega : 52 < n) hcc1 rfl 18 (by decide) (hts _ wm_286) (fun _ h9 => h9) rfl dX4_ahead_15 ?_
  refine lv_iload_n hx hb dX4_ahead_18 rfl (lv_at hl 1 rfl) ?_
  refine lv_i2b (v := y.toInt8.toInt32) hx hb dX4_ahead_19 rfl ?_
  refine mx_i (sB (by8 y)) (i8_by8 y) ?_
  refine mx_bast (y := sB (by8 y)) hx hb hK hP hD hS (by omega : 58 < n) 2 h58 rfl (vp_in_nI (by omega) (by omega)) (nar_sB _) dX4_ahead_20 (fun H locs hP hS => ?_)
  obtain ⟨c2, ec2⟩ : ∃ z : Nat → va_E, z = va_up c1 58 (.inl (ca 2, 72, .inl (upd f (nI p).toNatClampNeg (sB (by8 y))))) := ⟨_, rfl⟩
  have hP : va_P D vwCl (mw n ad c2) H := by rw [ec2]; exact hP
  have hsc2 : ∀ j, j ≠ 58 → c2 j = c1 j := fun j h => by rw [ec2]; exact va_up_ne _ _ h
  have hcc2 : c2 58 = .inl (ca 2, 72, .inl (upd f (nI p).toNatClampNeg (sB (by8 y)))) := by rw [ec2]; exact va_up_self _ _ _
  rw [nI_clamp (by omega)] at hcc2
  exact mx_vret hx hb hr hlocks hP hS (⟨(hsc2 52 (by omega)).trans hcc1, (hB.keep (hsc1 58 (by omega))).pre h58 (by8_lt y) hcc2, fun j h1 h2 => (hsc2 j h2).trans (hsc1 j h1)⟩) dX4_ahead_21
set_option maxHeartbeats 4000000 in
set_option maxRecDepth 100000 in
/-- digits(z) -/
theorem c_digits (l : Launch) (D : va_G) (ca : Nat → ClassId) (n : Nat) (ad : Nat → Nat) (c : Nat → va_E) {x0 x1 x2 x3 x4 x5 x6 x7 x8 x9 x10 x11 x12 : Int32} {v : Int64} (hn : 59 ≤ n) (hO : c 52 = rO ad x0 x1 x2 x3 x4 x5 x6 x7 x8 x9 x10 x11 x12 v) (z : Int64) {f0 : Nat → Int32} (h58 : c 58 = .inl (ca 2, 72, .inl f0)) : mVoid l yX4_digits wsX4_digits ({ frames := 1, cells := 0, slots := 0, locals := 21 }) [.ref (ad 52), .long z] D (tTY ca) n ad c (fun c' => ∃ p, p + (tDec z).length = 72 ∧ c' 52 = rO ad x0 x1 x2 x3 x4 x5 x6 x7 x8 x9 x10 x11 (nI p) v ∧ tB ca c' 58 72 p (tDec z) ∧ ∀ j, j ≠ 52 → j ≠ 58 → c' j = c j) := by
  intro sz
  refine Met.ofW (cc := cX4_digits) (maxL := 7) (ret := none) (by decide) rfl ?_
  intro pg9 ev9 s m args below meth cd s₁ B hml hv
  obtain ⟨rfl, hsz, hP, hK, hD0, hN⟩ := hv
  have hx := B.exec
  have hb := B.bytes
  have hr := B.returns
  have hts := fun (w : Cond) (h : w ∈ WSa) => atoms_spec (ws := wsX4_digits) B.pre w (List.mem_cons_of_mem _ h)
  have hown : s.vm.findClass RX4 = some m.cls := findClass_of_methodNamed B.named
  have hlocks := B.notSynchronized
  subst hsz
  have hD : ∀ c, va_D (fun _ => True) (mw n ad c) := fun c' => mw_D hD0 c'
  have hS : va_S (mA n ad s.heap.size) s.heap s.heap [] := va_S.rf
  have hl := lv_entry ([.ref (ad 52), .long z]) (n := 7) (Nat.le_of_ble_eq_true rfl)
  rw [lg_entry_eq]
  generalize (lg_sl ([.ref (ad 52), .long z]) ++ List.replicate (7 - (lg_sl ([.ref (ad 52), .long z])).length) Slot.unset).toArray = ls at hl ⊢
  have hl : lv_has ls 7 [(0, .ref (ad 52)), (1, .long z)] := hl
  have loop : ∀ (q1 : Nat) (i : Nat) (p : Nat) (r : Int64) (c1 : Nat → va_E) (H : Heap) (locs : List Loc) (ls : Array Slot), (i ≤ 18) → (18 < i + q1) → (p + 1 + i = 72) → (r.toInt.natAbs = z.toInt.natAbs / 10 ^ i) → (i = 0 ∨ z.toInt.natAbs / 10 ^ i ≠ 0) → (c1 52 = rO ad x0 x1 x2 x3 x4 x5 x6 x7 x8 x9 x10 x11 (nI (p + 1)) v) → (tB ca c1 58 72 (p + 1) (dgF (dDig z) dCh i true)) → (∀ j, j ≠ 52 → j ≠ 58 → c1 j = c j) → va_P D vwCl (mw n ad c1) H → va_S (mA n ad s.heap.size) s.heap H locs → lv_has ls 7 [(3, .long r), (0, .ref (ad 52))] → W pg9 l ev9 (headSpec wsX4_digits ({ frames := 1, cells := 0, slots := 0, locals := 21 })).room s m ([.ref (ad 52), .long z] : List Value).toArray below meth cd H locs 0 0 (MQ below (va_Qv (fun c' => ∃ p, p + (tDec z).length = 72 ∧ c' 52 = rO ad x0 x1 x2 x3 x4 x5 x6 x7 x8 x9 x10 x11 (nI p) v ∧ tB ca c' 58 72 p (tDec z) ∧ ∀ j, j ≠ 52 → j ≠ 58 → c' j = c j) (mW D n ad) (mA n ad s.heap.size)) ([.ref (ad 52), .long z] : List Value).toArray s 0 0 (mA n ad s.heap.size)) (F0 m 8 ls []) := by
    intro q1
    induction q1 with
    | zero => intro i p r c1 H locs ls hi hq hpi hrr hnz0 hO1 hB1 hs1 hP hS hl; omega
    | succ q1 ih =>
      intro i p r c1 H locs ls hi hq hpi hrr hnz0 hO1 hB1 hs1 hP hS hl
      refine lv_lload_n hx hb dX4_digits_8 rfl (lv_at hl 0 rfl) ?_
      refine lv_ldc2 (v := 10) hx hb hown (hts _ wm_362) dX4_digits_9 ?_
      refine lv_lrem hx hb dX4_digits_12 (by decide) ?_
      obtain ⟨d, hdd⟩ : ∃ d : Int64, d = r - r / 10 * 10 := ⟨_, rfl⟩
      refine mx_l d hdd.symm ?_
      obtain ⟨hd1, hd2⟩ := dg_rem hrr hdd
      refine lv_lstore (lv' := [(5, .long d), (3, .long r), (0, .ref (ad 52))]) hx hb dX4_digits_13 hl (by decide) rfl (fun ls hl => ?_)
      refine lv_aload_n hx hb dX4_digits_15 rfl (lv_at hl 2 rfl) ?_
      refine lv_bipush (v := 48) hx hb dX4_digits_16 (by decide) ?_
      suffices hj34 : W pg9 l ev9 (headSpec wsX4_digits ({ frames := 1, cells := 0, slots := 0, locals := 21 })).room s m ([.ref (ad 52), .long z] : List Value).toArray below meth cd H locs 0 0 (MQ below (va_Qv (fun c' => ∃ p, p + (tDec z).length = 72 ∧ c' 52 = rO ad x0 x1 x2 x3 x4 x5 x6 x7 x8 x9 x10 x11 (nI p) v ∧ tB ca c' 58 72 p (tDec z) ∧ ∀ j, j ≠ 52 → j ≠ 58 → c' j = c j) (mW D n ad) (mA n ad s.heap.size)) ([.ref (ad 52), .long z] : List Value).toArray s 0 0 (mA n ad s.heap.size)) (F0 m 34 ls [.int (nI (dDig z i)), .int 48, .ref (ad 52)]) by
        refine lv_lload hx hb dX4_digits_18 (lv_at hl 0 rfl) ?_
        refine lv_lconst (v := 0) hx hb dX4_digits_20 (by decide) ?_
        refine W.lcmp hx hb dX4_digits_21 ?_
        refine lv_if_ge (tgt := 31) hx hb dX4_digits_22 (by decide) (fun hc1 => ?_) (fun hc1 => ?_)
        · skip
          refine lv_lload hx hb dX4_digits_31 (lv_at hl 0 rfl) ?_
          refine lv_l2i (v := d.toInt32) hx hb dX4_digits_33 rfl ?_
          refine mx_i (nI (dDig z i)) (hd1 ((lg_cmp_ge _ _).mp hc1)) ?_
          exact hj34
        · skip
          refine lv_lload hx hb dX4_digits_25 (lv_at hl 0 rfl) ?_
          refine lv_lneg hx hb dX4_digits_27 ?_
          refine lv_goto (tgt := 33) hx hb dX4_digits_28 (by decide) ?_
          refine lv_l2i (v := (-d).toInt32) hx hb dX4_digits_33 rfl ?_
          refine mx_i (nI (dDig z i)) (hd2 (fun h => hc1 ((lg_cmp_ge _ _).mpr h))) ?_
          exact hj34
      refine lv_iadd hx hb dX4_digits_34 ?_
      refine mx_i (nI (48 + dDig z i)) (nI_add 48 _) ?_
      refine mx_cv (va_runV (As := [.int (nI (48 + dDig z i))]) (rest := []) ⟨hx, hb, hml, hown, hts⟩ (c_ahead l D ca n ad c1 hn hO1 (nI (48 + dDig z i)) p rfl hB1 _) (cwV 1 hts (gV wm_363 wm_365 ws_14 wm_5 wm_366) rfl rfl rfl (by decide +kernel) ⟨Nat.le_of_ble_eq_true rfl, Nat.le_of_ble_eq_true rfl⟩) (mx_pv (C := RX4) (T := TX4) (N := 20) (ci := 4) hK hP hD hN (by omega : 52 < n) hO1 rfl) rfl rfl hl.1 rfl (lv_room (Nat.le_of_ble_eq_true rfl)) dX4_digits_35 ⟨Nat.zero_le _, Nat.zero_le _⟩) (Nat.le_refl _) hS (fun c2 H locs hw hP hS => ?_)
      obtain ⟨hO2, hB2, hs2⟩ := hw
      rw [by8_nI (by have := dDig_lt z i; omega)] at hB2
      have hB3 : tB ca c2 58 72 p (dgF (dDig z) dCh (i + 1) true) := by rw [dgF_t (Or.inl rfl)]; exact hB2
      refine lv_lload_n hx hb dX4_digits_38 rfl (lv_at hl 1 rfl) ?_
      refine lv_ldc2 (v := 10) hx hb hown (hts _ wm_362) dX4_digits_39 ?_
      refine lv_ldiv hx hb dX4_digits_42 (by decide) ?_
      obtain ⟨r2, hr2⟩ : ∃ r2 : Int64, r2 = r / 10 := ⟨_, rfl⟩
      refine mx_l r2 hr2.symm ?_
      have hn2 := dg_div hrr hr2
      refine lv_lstore_n (lv' := [(3, .long r2), (5, .long d), (0, .ref (ad 52))]) hx hb dX4_digits_43 rfl hl (by decide) rfl (fun ls hl => ?_)
      refine lv_lload_n hx hb dX4_digits_44 rfl (lv_at hl 0 rfl) ?_
      refine lv_lconst (v := 0) hx hb dX4_digits_45 (by decide) ?_
      refine W.lcmp hx hb dX4_digits_46 ?_
      refine lv_if_ne (tgt := 8) hx hb dX4_digits_47 (by decide) (fun hc2 => ?_) (fun hc2 => ?_)
      · skip
        have hnz : z.toInt.natAbs / 10 ^ (i + 1) ≠ 0 := dg_nz hn2 (fun h => hc2 ((lg_cmp_eq _ _).mpr h))
        have hi18 := dg_lt hnz
        obtain ⟨p1, rfl⟩ : ∃ p1, p = p1 + 1 := ⟨p - 1, by omega⟩
        exact ih (i + 1) p1 r2 c2 H locs ls (by omega) (by omega) (by omega) hn2 (Or.inr hnz) hO2 hB3 (fun j h1 h2 => (hs2 j h1 h2).trans (hs1 j h1 h2)) hP hS (lv_sub hl [0, 2] rfl)
      · skip
        have hz : z.toInt.natAbs / 10 ^ (i + 1) = 0 := by rw [← hn2, (lg_cmp_eq _ _).mp hc2]; rfl
        have htd : tDec z = dgF (dDig z) dCh (i + 1) true := dg_trim hz (by omega) hnz0
        exact mx_vret hx hb hr hlocks hP hS (⟨p, by rw [htd, dgF_full]; omega, hO2, by rw [htd]; exact hB3, fun j h1 h2 => (hs2 j h1 h2).trans (hs1 j h1 h2)⟩) dX4_digits_50
  refine lv_aload_n hx hb dX4_digits_0 rfl (lv_at hl 0 rfl) ?_
  refine lv_bipush (v := 72) hx hb dX4_digits_1 (by decide) ?_
  refine mx_i (nI (71 + 1)) (rfl) ?_
  refine mx_put (ci := 4) (v := .int (nI (71 + 1))) (ty := .int) (C := RX4) (T := TX4) (N := 20) hx hb hts inX4 tyX4 tyX4_ok nmX4 hown hK hP hD hS (by omega : 52 < n) hO rfl 18 (by decide) (hts _ wm_286) (fun _ h9 => h9) rfl (by decide +kernel) rfl rfl (Nat.le_of_ble_eq_true rfl) dX4_digits_3 (fun H locs hP hS => ?_)
  obtain ⟨a1, ea1⟩ : ∃ z : Nat → va_E, z = va_up c 52 (.inr (4, [.ref (ad 53), .ref (ad 54), .ref (ad 55), .ref (ad 56), .int x0, .int x1, .int x2, .int x3, .int x4, .ref (ad 57), .int x5, .int x6, .int x7, .int x8, .int x9, .int x10, .int x11, .ref (ad 58), .int (nI (71 + 1)), .long v])) := ⟨_, rfl⟩
  have hP : va_P D vwCl (mw n ad a1) H := by rw [ea1]; exact hP
  have hsa1 : ∀ j, j ≠ 52 → a1 j = c j := fun j h => by rw [ea1]; exact va_up_ne _ _ h
  have hca1 : a1 52 = .inr (4, [.ref (ad 53), .ref (ad 54), .ref (ad 55), .ref (ad 56), .int x0, .int x1, .int x2, .int x3, .int x4, .ref (ad 57), .int x5, .int x6, .int x7, .int x8, .int x9, .int x10, .int x11, .ref (ad 58), .int (nI (71 + 1)), .long v]) := by rw [ea1]; exact va_up_self _ _ _
  refine lv_lload_n hx hb dX4_digits_6 rfl (lv_at hl 1 rfl) ?_
  refine lv_lstore_n (lv' := [(3, .long z), (0, .ref (ad 52)), (1, .long z)]) hx hb dX4_digits_7 rfl hl (by decide) rfl (fun ls hl => ?_)
  exact loop 19 0 71 z a1 _ _ ls (by omega) (by omega) (by omega) (by simp) (Or.inl rfl) hca1 (tB.nil ((hsa1 58 (by omega)).trans h58) (by omega) (by omega)) (fun j h1 h2 => hsa1 j h1) hP hS (lv_sub hl [0, 1] rfl)
set_option maxHeartbeats 4000000 in
set_option maxRecDepth 100000 in
/-- decimal(z) -/
theorem c_decimal (l : Launch) (D : va_G) (ca : Nat → ClassId) (n : Nat) (ad : Nat → Nat) (c : Nat → va_E) {x0 x1 x2 x3 x4 x5 x6 x7 x8 x9 x10 x11 x12 : Int32} {v : Int64} (hn : 59 ≤ n) (hO : c 52 = rO ad x0 x1 x2 x3 x4 x5 x6 x7 x8 x9 x10 x11 x12 v) (z : Int64) {f0 : Nat → Int32} (h58 : c 58 = .inl (ca 2, 72, .inl f0)) : mVoid l yX4_decimal wsX4_decimal ({ frames := 2, cells := 0, slots := 0, locals := 47 }) [.ref (ad 52), .long z] D (tTY ca) n ad c (fun c' => ∃ p, p + (tNum z).length = 72 ∧ c' 52 = rO ad x0 x1 x2 x3 x4 x5 x6 x7 x8 x9 x10 x11 (nI p) v ∧ tB ca c' 58 72 p (tNum z) ∧ ∀ j, j ≠ 52 → j ≠ 58 → c' j = c j) := by
  intro sz
  refine Met.ofW (cc := cX4_decimal) (maxL := 3) (ret := none) (by decide) rfl ?_
  intro pg9 ev9 s m args below meth cd s₁ B hml hv
  obtain ⟨rfl, hsz, hP, hK, hD0, hN⟩ := hv
  have hx := B.exec
  have hb := B.bytes
  have hr := B.returns
  have hts := fun (w : Cond) (h : w ∈ WSa) => atoms_spec (ws := wsX4_decimal) B.pre w (List.mem_cons_of_mem _ h)
  have hown : s.vm.findClass RX4 = some m.cls := findClass_of_methodNamed B.named
  have hlocks := B.notSynchronized
  subst hsz
  have hD : ∀ c, va_D (fun _ => True) (mw n ad c) := fun c' => mw_D hD0 c'
  have hS : va_S (mA n ad s.heap.size) s.heap s.heap [] := va_S.rf
  have hl := lv_entry ([.ref (ad 52), .long z]) (n := 3) (Nat.le_of_ble_eq_true rfl)
  rw [lg_entry_eq]
  generalize (lg_sl ([.ref (ad 52), .long z]) ++ List.replicate (3 - (lg_sl ([.ref (ad 52), .long z])).length) Slot.unset).toArray = ls at hl ⊢
  have hl : lv_has ls 3 [(0, .ref (ad 52)), (1, .long z)] := hl
  refine lv_aload_n hx hb dX4_decimal_0 rfl (lv_at hl 0 rfl) ?_
  refine lv_lload_n hx hb dX4_decimal_1 rfl (lv_at hl 1 rfl) ?_
  refine mx_cv (va_runV (As := [.long z]) (rest := []) ⟨hx, hb, hml, hown, hts⟩ (c_digits l D ca n ad c hn hO z h58 _) (cwV 1 hts (gV wm_358 wm_360 ws_13 wm_5 wm_361) rfl rfl rfl (by decide +kernel) ⟨Nat.le_of_ble_eq_true rfl, Nat.le_of_ble_eq_true rfl⟩) (mx_pv (C := RX4) (T := TX4) (N := 20) (ci := 4) hK hP hD hN (by omega : 52 < n) hO rfl) rfl rfl hl.1 rfl (lv_room (Nat.le_of_ble_eq_true rfl)) dX4_decimal_2 ⟨Nat.zero_le _, Nat.zero_le _⟩) (Nat.le_refl _) hS (fun c1 H locs hw hP hS => ?_)
  obtain ⟨p, hp, hO1, hB1, hs1⟩ := hw
  have hlen := dgF_len (dig := dDig z) (ch := dCh) 19 false
  have hlen2 : (tDec z).length ≤ 19 := hlen
  refine lv_lload_n hx hb dX4_decimal_5 rfl (lv_at hl 1 rfl) ?_
  refine lv_lconst (v := 0) hx hb dX4_decimal_6 (by decide) ?_
  refine W.lcmp hx hb dX4_decimal_7 ?_
  refine lv_if_ge (tgt := 17) hx hb dX4_decimal_8 (by decide) (fun hc => ?_) (fun hc => ?_)
  · skip
    have htn : tNum z = tDec z := by unfold tNum; rw [if_neg (Int64.not_lt.mpr ((lg_cmp_ge _ _).mp hc)), List.nil_append]
    exact mx_vret hx hb hr hlocks hP hS (⟨p, by rw [htn]; exact hp, hO1, by rw [htn]; exact hB1, hs1⟩) dX4_decimal_17
  · skip
    have htn : tNum z = by8 45 :: tDec z := by unfold tNum; rw [if_pos (Int64.not_le.mp (fun h => hc ((lg_cmp_ge _ _).mpr h)))]; rfl
    obtain ⟨p1, rfl⟩ : ∃ p1, p = p1 + 1 := ⟨p - 1, by omega⟩
    refine lv_aload_n hx hb dX4_decimal_11 rfl (lv_at hl 0 rfl) ?_
    refine lv_bipush (v := 45) hx hb dX4_decimal_12 (by decide) ?_
    refine mx_cv (va_runV (As := [.int 45]) (rest := []) ⟨hx, hb, hml, hown, hts⟩ (c_ahead l D ca n ad c1 hn hO1 45 p1 rfl hB1 _) (cwV 1 hts (gV wm_363 wm_365 ws_14 wm_5 wm_366) rfl rfl rfl (by decide +kernel) ⟨Nat.le_of_ble_eq_true rfl, Nat.le_of_ble_eq_true rfl⟩) (mx_pv (C := RX4) (T := TX4) (N := 20) (ci := 4) hK hP hD hN (by omega : 52 < n) hO1 rfl) rfl rfl hl.1 rfl (lv_room (Nat.le_of_ble_eq_true rfl)) dX4_decimal_14 ⟨Nat.zero_le _, Nat.zero_le _⟩) (Nat.le_refl _) hS (fun c2 H locs hw hP hS => ?_)
    obtain ⟨hO2, hB2, hs2⟩ := hw
    exact mx_vret hx hb hr hlocks hP hS (⟨p1, by rw [htn, List.length_cons]; omega, hO2, by rw [htn]; exact hB2, fun j h1 h2 => (hs2 j h1 h2).trans (hs1 j h1 h2)⟩) dX4_decimal_17
end
section
set_option maxHeartbeats 4000000 in
set_option maxRecDepth 100000 in
/-- bits(z, each, letter) -/
theorem c_bits (l : Launch) (D : va_G) (ca : Nat → ClassId) (n : Nat) (ad : Nat → Nat) (c : Nat → va_E) {x0 x1 x2 x3 x4 x5 x6 x7 x8 x9 x10 x11 x12 : Int32} {v : Int64} (hn : 59 ≤ n) (hO : c 52 = rO ad x0 x1 x2 x3 x4 x5 x6 x7 x8 x9 x10 x11 x12 v) (z : Int64) (y3 y4 : Int32) (mo bt lb : Nat) (h3 : y3 = nI bt) (h4 : y4 = nI lb) (hbt : bt = 3 ∧ mo = 22 ∨ bt = 4 ∧ mo = 16) (hlb : 10 ≤ lb ∧ lb < 200) {f0 : Nat → Int32} (h58 : c 58 = .inl (ca 2, 72, .inl f0)) : mVoid l yX4_bits wsX4_bits ({ frames := 1, cells := 0, slots := 0, locals := 21 }) [.ref (ad 52), .long z, .int y3, .int y4] D (tTY ca) n ad c (fun c' => ∃ p, p + (tBits z mo bt lb).length = 72 ∧ c' 52 = rO ad x0 x1 x2 x3 x4 x5 x6 x7 x8 x9 x10 x11 (nI p) v ∧ tB ca c' 58 72 p (tBits z mo bt lb) ∧ ∀ j, j ≠ 52 → j ≠ 58 → c' j = c j) := by
  intro sz
  refine Met.ofW (cc := cX4_bits) (maxL := 8) (ret := none) (by decide) rfl ?_
  intro pg9 ev9 s m args below meth cd s₁ B hml hv
  obtain ⟨rfl, hsz, hP, hK, hD0, hN⟩ := hv
  have hx := B.exec
  have hb := B.bytes
  have hr := B.returns
  have hts := fun (w : Cond) (h : w ∈ WSa) => atoms_spec (ws := wsX4_bits) B.pre w (List.mem_cons_of_mem _ h)
  have hown : s.vm.findClass RX4 = some m.cls := findClass_of_methodNamed B.named
  have hlocks := B.notSynchronized
  subst hsz
  have hD : ∀ c, va_D (fun _ => True) (mw n ad c) := fun c' => mw_D hD0 c'
  have hS : va_S (mA n ad s.heap.size) s.heap s.heap [] := va_S.rf
  have hl := lv_entry ([.ref (ad 52), .long z, .int y3, .int y4]) (n := 8) (Nat.le_of_ble_eq_true rfl)
  rw [lg_entry_eq]
  generalize (lg_sl ([.ref (ad 52), .long z, .int y3, .int y4]) ++ List.replicate (8 - (lg_sl ([.ref (ad 52), .long z, .int y3, .int y4])).length) Slot.unset).toArray = ls at hl ⊢
  have hl : lv_has ls 8 [(0, .ref (ad 52)), (1, .long z), (3, .int y3), (4, .int y4)] := hl
  have hb34 : bt = 3 ∨ bt = 4 := by omega
  have loop : ∀ (q1 : Nat) (i : Nat) (p : Nat) (r : Int64) (c1 : Nat → va_E) (H : Heap) (locs : List Loc) (ls : Array Slot), (i < mo) → (21 < i + q1) → (p + 1 + i = 72) → (uN r = uN z / 2 ^ (i * bt)) → (i = 0 ∨ uN z / 2 ^ (i * bt) ≠ 0) → (c1 52 = rO ad x0 x1 x2 x3 x4 x5 x6 x7 x8 x9 x10 x11 (nI (p + 1)) v) → (tB ca c1 58 72 (p + 1) (dgF (bDig z bt) (bCh lb) i true)) → (∀ j, j ≠ 52 → j ≠ 58 → c1 j = c j) → va_P D vwCl (mw n ad c1) H → va_S (mA n ad s.heap.size) s.heap H locs → lv_has ls 8 [(5, .long r), (0, .ref (ad 52)), (3, .int y3), (4, .int y4)] → W pg9 l ev9 (headSpec wsX4_bits ({ frames := 1, cells := 0, slots := 0, locals := 21 })).room s m ([.ref (ad 52), .long z, .int y3, .int y4] : List Value).toArray below meth cd H locs 0 0 (MQ below (va_Qv (fun c' => ∃ p, p + (tBits z mo bt lb).length = 72 ∧ c' 52 = rO ad x0 x1 x2 x3 x4 x5 x6 x7 x8 x9 x10 x11 (nI p) v ∧ tB ca c' 58 72 p (tBits z mo bt lb) ∧ ∀ j, j ≠ 52 → j ≠ 58 → c' j = c j) (mW D n ad) (mA n ad s.heap.size)) ([.ref (ad 52), .long z, .int y3, .int y4] : List Value).toArray s 0 0 (mA n ad s.heap.size)) (F0 m 9 ls []) := by
    intro q1
    induction q1 with
    | zero => intro i p r c1 H locs ls hi hq hpi hrr hnz0 hO1 hB1 hs1 hP hS hl; omega
    | succ q1 ih =>
      intro i p r c1 H locs ls hi hq hpi hrr hnz0 hO1 hB1 hs1 hP hS hl
      have hd16 := bDig_lt z (bt := bt) (by omega) i
      refine lv_lload hx hb dX4_bits_9 (lv_at hl 0 rfl) ?_
      refine lv_lconst (v := 1) hx hb dX4_bits_11 (by decide) ?_
      refine lv_iload_n hx hb dX4_bits_12 rfl (lv_at hl 2 rfl) ?_
      refine lv_lshl (v := 1 <<< ((y3 : Int32).toInt64 &&& 63)) hx hb dX4_bits_13 rfl ?_
      refine lv_lconst (v := 1) hx hb dX4_bits_14 (by decide) ?_
      refine lv_lsub hx hb dX4_bits_15 ?_
      refine lv_land hx hb dX4_bits_16 ?_
      refine lv_l2i (v := (r &&& ((1 <<< ((y3 : Int32).toInt64 &&& 63)) - 1)).toInt32) hx hb dX4_bits_17 rfl ?_
      refine mx_i (nI (bDig z bt i)) (bg_rem hb34 hrr h3) ?_
      refine lv_istore (lv' := [(7, .int (nI (bDig z bt i))), (5, .long r), (0, .ref (ad 52)), (3, .int y3), (4, .int y4)]) hx hb dX4_bits_18 hl (by decide) rfl (fun ls hl => ?_)
      refine lv_aload_n hx hb dX4_bits_20 rfl (lv_at hl 2 rfl) ?_
      suffices hj44 : W pg9 l ev9 (headSpec wsX4_bits ({ frames := 1, cells := 0, slots := 0, locals := 21 })).room s m ([.ref (ad 52), .long z, .int y3, .int y4] : List Value).toArray below meth cd H locs 0 0 (MQ below (va_Qv (fun c' => ∃ p, p + (tBits z mo bt lb).length = 72 ∧ c' 52 = rO ad x0 x1 x2 x3 x4 x5 x6 x7 x8 x9 x10 x11 (nI p) v ∧ tB ca c' 58 72 p (tBits z mo bt lb) ∧ ∀ j, j ≠ 52 → j ≠ 58 → c' j = c j) (mW D n ad) (mA n ad s.heap.size)) ([.ref (ad 52), .long z, .int y3, .int y4] : List Value).toArray s 0 0 (mA n ad s.heap.size)) (F0 m 44 ls [.int (nI (bCh lb (bDig z bt i))), .ref (ad 52)]) by
        refine lv_iload hx hb dX4_bits_21 (lv_at hl 0 rfl) ?_
        refine lv_bipush (v := 10) hx hb dX4_bits_23 (by decide) ?_
        refine lv_icmp_ge (tgt := 36) hx hb dX4_bits_25 (by decide) (fun hc1 => ?_) (fun hc1 => ?_)
        · skip
          have hge : 10 ≤ bDig z bt i := (nI_leI (a := 10) (by omega) (by omega)).mp hc1
          refine lv_iload hx hb dX4_bits_36 (lv_at hl 4 rfl) ?_
          refine lv_iload hx hb dX4_bits_38 (lv_at hl 0 rfl) ?_
          refine lv_iadd hx hb dX4_bits_40 ?_
          refine lv_bipush (v := 10) hx hb dX4_bits_41 (by decide) ?_
          refine lv_isub hx hb dX4_bits_43 ?_
          refine mx_i (nI (bCh lb (bDig z bt i))) (by rw [h4]; exact bCh_hi hge) ?_
          exact hj44
        · skip
          have hlt : bDig z bt i < 10 := by have := (not_congr (nI_leI (a := 10) (by omega) (by omega : bDig z bt i < 2 ^ 31))).mp hc1; omega
          refine lv_bipush (v := 48) hx hb dX4_bits_28 (by decide) ?_
          refine lv_iload hx hb dX4_bits_30 (lv_at hl 0 rfl) ?_
          refine lv_iadd hx hb dX4_bits_32 ?_
          refine lv_goto (tgt := 44) hx hb dX4_bits_33 (by decide) ?_
          refine mx_i (nI (bCh lb (bDig z bt i))) (bCh_lo hlt) ?_
          exact hj44
      refine mx_cv (va_runV (As := [.int (nI (bCh lb (bDig z bt i)))]) (rest := []) ⟨hx, hb, hml, hown, hts⟩ (c_ahead l D ca n ad c1 hn hO1 (nI (bCh lb (bDig z bt i))) p rfl hB1 _) (cwV 1 hts (gV wm_363 wm_365 ws_14 wm_5 wm_366) rfl rfl rfl (by decide +kernel) ⟨Nat.le_of_ble_eq_true rfl, Nat.le_of_ble_eq_true rfl⟩) (mx_pv (C := RX4) (T := TX4) (N := 20) (ci := 4) hK hP hD hN (by omega : 52 < n) hO1 rfl) rfl rfl hl.1 rfl (lv_room (Nat.le_of_ble_eq_true rfl)) dX4_bits_44 ⟨Nat.zero_le _, Nat.zero_le _⟩) (Nat.le_refl _) hS (fun c2 H locs hw hP hS => ?_)
      obtain ⟨hO2, hB2, hs2⟩ := hw
      rw [by8_nI (bCh_lt hd16 hlb.2)] at hB2
      have hB3 : tB ca c2 58 72 p (dgF (bDig z bt) (bCh lb) (i + 1) true) := by rw [dgF_t (Or.inl rfl)]; exact hB2
      refine lv_lload hx hb dX4_bits_47 (lv_at hl 1 rfl) ?_
      refine lv_iload_n hx hb dX4_bits_49 rfl (lv_at hl 3 rfl) ?_
      refine lv_lushr (v := (r.toUInt64 >>> ((y3 : Int32).toInt64.toUInt64 &&& Int64.toUInt64 63)).toInt64) hx hb dX4_bits_50 rfl ?_
      obtain ⟨r2, hr2⟩ : ∃ r2 : Int64, r2 = (r.toUInt64 >>> ((y3 : Int32).toInt64.toUInt64 &&& Int64.toUInt64 63)).toInt64 := ⟨_, rfl⟩
      refine mx_l r2 hr2.symm ?_
      have hn2 := bg_div hb34 hrr h3 hr2
      refine lv_lstore (lv' := [(5, .long r2), (7, .int (nI (bDig z bt i))), (0, .ref (ad 52)), (3, .int y3), (4, .int y4)]) hx hb dX4_bits_51 hl (by decide) rfl (fun ls hl => ?_)
      refine lv_lload hx hb dX4_bits_53 (lv_at hl 0 rfl) ?_
      refine lv_lconst (v := 0) hx hb dX4_bits_55 (by decide) ?_
      refine W.lcmp hx hb dX4_bits_56 ?_
      refine lv_if_ne (tgt := 9) hx hb dX4_bits_57 (by decide) (fun hc2 => ?_) (fun hc2 => ?_)
      · skip
        have hnz : uN z / 2 ^ ((i + 1) * bt) ≠ 0 := by rw [← hn2]; exact fun q => hc2 ((lg_cmp_eq _ _).mpr (uN_inj (q.trans rfl)))
        have hi18 := bg_lt hbt hnz
        obtain ⟨p1, rfl⟩ : ∃ p1, p = p1 + 1 := ⟨p - 1, by omega⟩
        exact ih (i + 1) p1 r2 c2 H locs ls (by omega) (by omega) (by omega) hn2 (Or.inr hnz) hO2 hB3 (fun j h1 h2 => (hs2 j h1 h2).trans (hs1 j h1 h2)) hP hS (lv_sub hl [0, 2, 3, 4] rfl)
      · skip
        have hz : uN z / 2 ^ ((i + 1) * bt) = 0 := by rw [← hn2, (lg_cmp_eq _ _).mp hc2]; rfl
        have htd : tBits z mo bt lb = dgF (bDig z bt) (bCh lb) (i + 1) true := bg_trim hb34 hz hi hnz0
        exact mx_vret hx hb hr hlocks hP hS (⟨p, by rw [htd, dgF_full]; omega, hO2, by rw [htd]; exact hB3, fun j h1 h2 => (hs2 j h1 h2).trans (hs1 j h1 h2)⟩) dX4_bits_60
  refine lv_aload_n hx hb dX4_bits_0 rfl (lv_at hl 0 rfl) ?_
  refine lv_bipush (v := 72) hx hb dX4_bits_1 (by decide) ?_
  refine mx_i (nI (71 + 1)) (rfl) ?_
  refine mx_put (ci := 4) (v := .int (nI (71 + 1))) (ty := .int) (C := RX4) (T := TX4) (N := 20) hx hb hts inX4 tyX4 tyX4_ok nmX4 hown hK hP hD hS (by omega : 52 < n) hO rfl 18 (by decide) (hts _ wm_286) (fun _ h9 => h9) rfl (by decide +kernel) rfl rfl (Nat.le_of_ble_eq_true rfl) dX4_bits_3 (fun H locs hP hS => ?_)
  obtain ⟨a1, ea1⟩ : ∃ z : Nat → va_E, z = va_up c 52 (.inr (4, [.ref (ad 53), .ref (ad 54), .ref (ad 55), .ref (ad 56), .int x0, .int x1, .int x2, .int x3, .int x4, .ref (ad 57), .int x5, .int x6, .int x7, .int x8, .int x9, .int x10, .int x11, .ref (ad 58), .int (nI (71 + 1)), .long v])) := ⟨_, rfl⟩
  have hP : va_P D vwCl (mw n ad a1) H := by rw [ea1]; exact hP
  have hsa1 : ∀ j, j ≠ 52 → a1 j = c j := fun j h => by rw [ea1]; exact va_up_ne _ _ h
  have hca1 : a1 52 = .inr (4, [.ref (ad 53), .ref (ad 54), .ref (ad 55), .ref (ad 56), .int x0, .int x1, .int x2, .int x3, .int x4, .ref (ad 57), .int x5, .int x6, .int x7, .int x8, .int x9, .int x10, .int x11, .ref (ad 58), .int (nI (71 + 1)), .long v]) := by rw [ea1]; exact va_up_self _ _ _
  refine lv_lload_n hx hb dX4_bits_6 rfl (lv_at hl 1 rfl) ?_
  refine lv_lstore (lv' := [(5, .long z), (0, .ref (ad 52)), (1, .long z), (3, .int y3), (4, .int y4)]) hx hb dX4_bits_7 hl (by decide) rfl (fun ls hl => ?_)
  exact loop 22 0 71 z a1 _ _ ls (by omega) (by omega) (by omega) (by simp) (Or.inl rfl) hca1 (tB.nil ((hsa1 58 (by omega)).trans h58) (by omega) (by omega)) (fun j h1 h2 => hsa1 j h1) hP hS (lv_sub hl [0, 1, 3, 4] rfl)
set_option maxHeartbeats 4000000 in
set_option maxRecDepth 100000 in
/-- hex(x) -/
theorem c_hex (l : Launch) (D : va_G) (ca : Nat → ClassId) (n : Nat) (ad : Nat → Nat) (c : Nat → va_E) (x : Int32) : mInt l yX4_hex wsX4_hex ({ frames := 0, cells := 0, slots := 0, locals := 0 }) [.int x] D (tTY ca) n ad c (fun r c' => c' = c ∧ r = hexF x) := by
  intro sz
  refine Met.ofW (cc := cX4_hex) (maxL := 1) (ret := (some .int)) (by decide) rfl ?_
  intro pg9 ev9 s m args below meth cd s₁ B hml hv
  obtain ⟨rfl, hsz, hP, hK, hD0, hN⟩ := hv
  have hx := B.exec
  have hb := B.bytes
  have hr := B.returns
  have hts := fun (w : Cond) (h : w ∈ WSa) => atoms_spec (ws := wsX4_hex) B.pre w (List.mem_cons_of_mem _ h)
  have hown : s.vm.findClass RX4 = some m.cls := findClass_of_methodNamed B.named
  have hlocks := B.notSynchronized
  subst hsz
  have hD : ∀ c, va_D (fun _ => True) (mw n ad c) := fun c' => mw_D hD0 c'
  have hS : va_S (mA n ad s.heap.size) s.heap s.heap [] := va_S.rf
  have hl := lv_entry ([.int x]) (n := 1) (Nat.le_of_ble_eq_true rfl)
  rw [lg_entry_eq]
  generalize (lg_sl ([.int x]) ++ List.replicate (1 - (lg_sl ([.int x])).length) Slot.unset).toArray = ls at hl ⊢
  have hl : lv_has ls 1 [(0, .int x)] := hl
  refine lv_iload_n hx hb dX4_hex_0 rfl (lv_at hl 0 rfl) ?_
  refine lv_bipush (v := 48) hx hb dX4_hex_1 (by decide) ?_
  refine lv_icmp_lt (tgt := 17) hx hb dX4_hex_3 (by decide) (fun hc1 => ?_) (fun hc1 => ?_)
  · skip
    have h1 : ¬ (48 ≤ x ∧ x ≤ 57) := fun h => absurd h.1 (Int32.not_le.mpr hc1)
    refine lv_iload_n hx hb dX4_hex_17 rfl (lv_at hl 0 rfl) ?_
    refine lv_bipush (v := 97) hx hb dX4_hex_18 (by decide) ?_
    refine lv_icmp_lt (tgt := 37) hx hb dX4_hex_20 (by decide) (fun hc3 => ?_) (fun hc3 => ?_)
    · skip
      have h2 : ¬ (97 ≤ x ∧ x ≤ 102) := fun h => absurd h.1 (Int32.not_le.mpr hc3)
      refine lv_iload_n hx hb dX4_hex_37 rfl (lv_at hl 0 rfl) ?_
      refine lv_bipush (v := 65) hx hb dX4_hex_38 (by decide) ?_
      refine lv_icmp_lt (tgt := 59) hx hb dX4_hex_40 (by decide) (fun hc5 => ?_) (fun hc5 => ?_)
      · skip
        refine lv_iconst (v := (-1)) hx hb dX4_hex_59 (by decide) ?_
        exact mx_iret hx hb hr hlocks hP hS (⟨rfl, by unfold hexF; rw [if_neg h1, if_neg h2, if_neg (fun h => absurd h.1 (Int32.not_le.mpr hc5))]⟩) dX4_hex_60
      · skip
        refine lv_iload_n hx hb dX4_hex_43 rfl (lv_at hl 0 rfl) ?_
        refine lv_bipush (v := 70) hx hb dX4_hex_44 (by decide) ?_
        refine lv_icmp_gt (tgt := 59) hx hb dX4_hex_46 (by decide) (fun hc6 => ?_) (fun hc6 => ?_)
        · skip
          refine lv_iconst (v := (-1)) hx hb dX4_hex_59 (by decide) ?_
          exact mx_iret hx hb hr hlocks hP hS (⟨rfl, by unfold hexF; rw [if_neg h1, if_neg h2, if_neg (fun h => absurd h.2 (Int32.not_le.mpr hc6))]⟩) dX4_hex_60
        · skip
          refine lv_iload_n hx hb dX4_hex_49 rfl (lv_at hl 0 rfl) ?_
          refine lv_bipush (v := 65) hx hb dX4_hex_50 (by decide) ?_
          refine lv_isub hx hb dX4_hex_52 ?_
          refine lv_bipush (v := 10) hx hb dX4_hex_53 (by decide) ?_
          refine lv_iadd hx hb dX4_hex_55 ?_
          refine lv_goto (tgt := 60) hx hb dX4_hex_56 (by decide) ?_
          exact mx_iret hx hb hr hlocks hP hS (⟨rfl, by unfold hexF; rw [if_neg h1, if_neg h2, if_pos ⟨Int32.not_lt.mp hc5, Int32.not_lt.mp hc6⟩]⟩) dX4_hex_60
    · skip
      refine lv_iload_n hx hb dX4_hex_23 rfl (lv_at hl 0 rfl) ?_
      refine lv_bipush (v := 102) hx hb dX4_hex_24 (by decide) ?_
      refine lv_icmp_gt (tgt := 37) hx hb dX4_hex_26 (by decide) (fun hc4 => ?_) (fun hc4 => ?_)
      · skip
        have h2 : ¬ (97 ≤ x ∧ x ≤ 102) := fun h => absurd h.2 (Int32.not_le.mpr hc4)
        refine lv_iload_n hx hb dX4_hex_37 rfl (lv_at hl 0 rfl) ?_
        refine lv_bipush (v := 65) hx hb dX4_hex_38 (by decide) ?_
        refine lv_icmp_lt (tgt := 59) hx hb dX4_hex_40 (by decide) (fun hc5 => ?_) (fun hc5 => ?_)
        · skip
          refine lv_iconst (v := (-1)) hx hb dX4_hex_59 (by decide) ?_
          exact mx_iret hx hb hr hlocks hP hS (⟨rfl, by unfold hexF; rw [if_neg h1, if_neg h2, if_neg (fun h => absurd h.1 (Int32.not_le.mpr hc5))]⟩) dX4_hex_60
        · skip
          refine lv_iload_n hx hb dX4_hex_43 rfl (lv_at hl 0 rfl) ?_
          refine lv_bipush (v := 70) hx hb dX4_hex_44 (by decide) ?_
          refine lv_icmp_gt (tgt := 59) hx hb dX4_hex_46 (by decide) (fun hc6 => ?_) (fun hc6 => ?_)
          · skip
            refine lv_iconst (v := (-1)) hx hb dX4_hex_59 (by decide) ?_
            exact mx_iret hx hb hr hlocks hP hS (⟨rfl, by unfold hexF; rw [if_neg h1, if_neg h2, if_neg (fun h => absurd h.2 (Int32.not_le.mpr hc6))]⟩) dX4_hex_60
          · skip
            refine lv_iload_n hx hb dX4_hex_49 rfl (lv_at hl 0 rfl) ?_
            refine lv_bipush (v := 65) hx hb dX4_hex_50 (by decide) ?_
            refine lv_isub hx hb dX4_hex_52 ?_
            refine lv_bipush (v := 10) hx hb dX4_hex_53 (by decide) ?_
            refine lv_iadd hx hb dX4_hex_55 ?_
            refine lv_goto (tgt := 60) hx hb dX4_hex_56 (by decide) ?_
            exact mx_iret hx hb hr hlocks hP hS (⟨rfl, by unfold hexF; rw [if_neg h1, if_neg h2, if_pos ⟨Int32.not_lt.mp hc5, Int32.not_lt.mp hc6⟩]⟩) dX4_hex_60
      · skip
        refine lv_iload_n hx hb dX4_hex_29 rfl (lv_at hl 0 rfl) ?_
        refine lv_bipush (v := 97) hx hb dX4_hex_30 (by decide) ?_
        refine lv_isub hx hb dX4_hex_32 ?_
        refine lv_bipush (v := 10) hx hb dX4_hex_33 (by decide) ?_
        refine lv_iadd hx hb dX4_hex_35 ?_
        exact mx_iret hx hb hr hlocks hP hS (⟨rfl, by unfold hexF; rw [if_neg h1, if_pos ⟨Int32.not_lt.mp hc3, Int32.not_lt.mp hc4⟩]⟩) dX4_hex_36
  · skip
    refine lv_iload_n hx hb dX4_hex_6 rfl (lv_at hl 0 rfl) ?_
    refine lv_bipush (v := 57) hx hb dX4_hex_7 (by decide) ?_
    refine lv_icmp_gt (tgt := 17) hx hb dX4_hex_9 (by decide) (fun hc2 => ?_) (fun hc2 => ?_)
    · skip
      have h1 : ¬ (48 ≤ x ∧ x ≤ 57) := fun h => absurd h.2 (Int32.not_le.mpr hc2)
      refine lv_iload_n hx hb dX4_hex_17 rfl (lv_at hl 0 rfl) ?_
      refine lv_bipush (v := 97) hx hb dX4_hex_18 (by decide) ?_
      refine lv_icmp_lt (tgt := 37) hx hb dX4_hex_20 (by decide) (fun hc3 => ?_) (fun hc3 => ?_)
      · skip
        have h2 : ¬ (97 ≤ x ∧ x ≤ 102) := fun h => absurd h.1 (Int32.not_le.mpr hc3)
        refine lv_iload_n hx hb dX4_hex_37 rfl (lv_at hl 0 rfl) ?_
        refine lv_bipush (v := 65) hx hb dX4_hex_38 (by decide) ?_
        refine lv_icmp_lt (tgt := 59) hx hb dX4_hex_40 (by decide) (fun hc5 => ?_) (fun hc5 => ?_)
        · skip
          refine lv_iconst (v := (-1)) hx hb dX4_hex_59 (by decide) ?_
          exact mx_iret hx hb hr hlocks hP hS (⟨rfl, by unfold hexF; rw [if_neg h1, if_neg h2, if_neg (fun h => absurd h.1 (Int32.not_le.mpr hc5))]⟩) dX4_hex_60
        · skip
          refine lv_iload_n hx hb dX4_hex_43 rfl (lv_at hl 0 rfl) ?_
          refine lv_bipush (v := 70) hx hb dX4_hex_44 (by decide) ?_
          refine lv_icmp_gt (tgt := 59) hx hb dX4_hex_46 (by decide) (fun hc6 => ?_) (fun hc6 => ?_)
          · skip
            refine lv_iconst (v := (-1)) hx hb dX4_hex_59 (by decide) ?_
            exact mx_iret hx hb hr hlocks hP hS (⟨rfl, by unfold hexF; rw [if_neg h1, if_neg h2, if_neg (fun h => absurd h.2 (Int32.not_le.mpr hc6))]⟩) dX4_hex_60
          · skip
            refine lv_iload_n hx hb dX4_hex_49 rfl (lv_at hl 0 rfl) ?_
            refine lv_bipush (v := 65) hx hb dX4_hex_50 (by decide) ?_
            refine lv_isub hx hb dX4_hex_52 ?_
            refine lv_bipush (v := 10) hx hb dX4_hex_53 (by decide) ?_
            refine lv_iadd hx hb dX4_hex_55 ?_
            refine lv_goto (tgt := 60) hx hb dX4_hex_56 (by decide) ?_
            exact mx_iret hx hb hr hlocks hP hS (⟨rfl, by unfold hexF; rw [if_neg h1, if_neg h2, if_pos ⟨Int32.not_lt.mp hc5, Int32.not_lt.mp hc6⟩]⟩) dX4_hex_60
      · skip
        refine lv_iload_n hx hb dX4_hex_23 rfl (lv_at hl 0 rfl) ?_
        refine lv_bipush (v := 102) hx hb dX4_hex_24 (by decide) ?_
        refine lv_icmp_gt (tgt := 37) hx hb dX4_hex_26 (by decide) (fun hc4 => ?_) (fun hc4 => ?_)
        · skip
          have h2 : ¬ (97 ≤ x ∧ x ≤ 102) := fun h => absurd h.2 (Int32.not_le.mpr hc4)
          refine lv_iload_n hx hb dX4_hex_37 rfl (lv_at hl 0 rfl) ?_
          refine lv_bipush (v := 65) hx hb dX4_hex_38 (by decide) ?_
          refine lv_icmp_lt (tgt := 59) hx hb dX4_hex_40 (by decide) (fun hc5 => ?_) (fun hc5 => ?_)
          · skip
            refine lv_iconst (v := (-1)) hx hb dX4_hex_59 (by decide) ?_
            exact mx_iret hx hb hr hlocks hP hS (⟨rfl, by unfold hexF; rw [if_neg h1, if_neg h2, if_neg (fun h => absurd h.1 (Int32.not_le.mpr hc5))]⟩) dX4_hex_60
          · skip
            refine lv_iload_n hx hb dX4_hex_43 rfl (lv_at hl 0 rfl) ?_
            refine lv_bipush (v := 70) hx hb dX4_hex_44 (by decide) ?_
            refine lv_icmp_gt (tgt := 59) hx hb dX4_hex_46 (by decide) (fun hc6 => ?_) (fun hc6 => ?_)
            · skip
              refine lv_iconst (v := (-1)) hx hb dX4_hex_59 (by decide) ?_
              exact mx_iret hx hb hr hlocks hP hS (⟨rfl, by unfold hexF; rw [if_neg h1, if_neg h2, if_neg (fun h => absurd h.2 (Int32.not_le.mpr hc6))]⟩) dX4_hex_60
            · skip
              refine lv_iload_n hx hb dX4_hex_49 rfl (lv_at hl 0 rfl) ?_
              refine lv_bipush (v := 65) hx hb dX4_hex_50 (by decide) ?_
              refine lv_isub hx hb dX4_hex_52 ?_
              refine lv_bipush (v := 10) hx hb dX4_hex_53 (by decide) ?_
              refine lv_iadd hx hb dX4_hex_55 ?_
              refine lv_goto (tgt := 60) hx hb dX4_hex_56 (by decide) ?_
              exact mx_iret hx hb hr hlocks hP hS (⟨rfl, by unfold hexF; rw [if_neg h1, if_neg h2, if_pos ⟨Int32.not_lt.mp hc5, Int32.not_lt.mp hc6⟩]⟩) dX4_hex_60
        · skip
          refine lv_iload_n hx hb dX4_hex_29 rfl (lv_at hl 0 rfl) ?_
          refine lv_bipush (v := 97) hx hb dX4_hex_30 (by decide) ?_
          refine lv_isub hx hb dX4_hex_32 ?_
          refine lv_bipush (v := 10) hx hb dX4_hex_33 (by decide) ?_
          refine lv_iadd hx hb dX4_hex_35 ?_
          exact mx_iret hx hb hr hlocks hP hS (⟨rfl, by unfold hexF; rw [if_neg h1, if_pos ⟨Int32.not_lt.mp hc3, Int32.not_lt.mp hc4⟩]⟩) dX4_hex_36
    · skip
      refine lv_iload_n hx hb dX4_hex_12 rfl (lv_at hl 0 rfl) ?_
      refine lv_bipush (v := 48) hx hb dX4_hex_13 (by decide) ?_
      refine lv_isub hx hb dX4_hex_15 ?_
      exact mx_iret hx hb hr hlocks hP hS (⟨rfl, by unfold hexF; rw [if_pos ⟨Int32.not_lt.mp hc1, Int32.not_lt.mp hc2⟩]⟩) dX4_hex_16
set_option maxHeartbeats 4000000 in
set_option maxRecDepth 100000 in
/-- isHex -/
theorem c_isHex (l : Launch) (D : va_G) (ca : Nat → ClassId) (n : Nat) (ad : Nat → Nat) (c : Nat → va_E) {x0 x1 x2 x3 x4 x5 x6 x7 x8 x9 x10 x11 x12 : Int32} {v : Int64} (hn : 59 ≤ n) (hO : c 52 = rO ad x0 x1 x2 x3 x4 x5 x6 x7 x8 x9 x10 x11 x12 v) {off : Nat} {t : List Nat} (hB : tB ca c 55 800 off t) (y1 y2 : Int32) (i0 : Nat) (mi : Bool) (hy1 : y1 = nI (off + i0)) (hy2 : y2 = nI (off + t.length)) (hi0 : i0 ≤ t.length) : mInt l yX4_isHex wsX4_isHex ({ frames := 1, cells := 0, slots := 0, locals := 20 }) [.ref (ad 52), .int y1, .int y2, .int (bI mi)] D (tTY ca) n ad c (fun r c' => ((∃ vv, pHex (t.drop i0) mi = some vv ∧ r = 1 ∧ c' 52 = rO ad x0 x1 x2 x3 x4 x5 x6 x7 x8 x9 x10 x11 x12 vv) ∨ (pHex (t.drop i0) mi = none ∧ r = 0 ∧ ∃ vv, c' 52 = rO ad x0 x1 x2 x3 x4 x5 x6 x7 x8 x9 x10 x11 x12 vv)) ∧ ∀ j, j ≠ 52 → c' j = c j) := by
  intro sz
  refine Met.ofW (cc := cX4_isHex) (maxL := 9) (ret := (some .boolean)) (by decide) rfl ?_
  intro pg9 ev9 s m args below meth cd s₁ B hml hv
  obtain ⟨rfl, hsz, hP, hK, hD0, hN⟩ := hv
  have hx := B.exec
  have hb := B.bytes
  have hr := B.returns
  have hts := fun (w : Cond) (h : w ∈ WSa) => atoms_spec (ws := wsX4_isHex) B.pre w (List.mem_cons_of_mem _ h)
  have hown : s.vm.findClass RX4 = some m.cls := findClass_of_methodNamed B.named
  have hlocks := B.notSynchronized
  subst hsz
  have hD : ∀ c, va_D (fun _ => True) (mw n ad c) := fun c' => mw_D hD0 c'
  have hS : va_S (mA n ad s.heap.size) s.heap s.heap [] := va_S.rf
  have hl := lv_entry ([.ref (ad 52), .int y1, .int y2, .int (bI mi)]) (n := 9) (Nat.le_of_ble_eq_true rfl)
  rw [lg_entry_eq]
  generalize (lg_sl ([.ref (ad 52), .int y1, .int y2, .int (bI mi)]) ++ List.replicate (9 - (lg_sl ([.ref (ad 52), .int y1, .int y2, .int (bI mi)])).length) Slot.unset).toArray = ls at hl ⊢
  have hl : lv_has ls 9 [(0, .ref (ad 52)), (1, .int y1), (2, .int y2), (3, .int (bI mi))] := hl
  obtain ⟨hle, hcp, hby, f, h55, hf⟩ := id hB
  refine lv_lconst (v := 0) hx hb dX4_isHex_0 (by decide) ?_
  refine lv_lstore (lv' := [(4, .long 0), (0, .ref (ad 52)), (1, .int y1), (2, .int y2), (3, .int (bI mi))]) hx hb dX4_isHex_1 hl (by decide) rfl (fun ls hl => ?_)
  obtain ⟨g0, hg0⟩ : ∃ g0 : Bool, decide (1 ≤ t.length - i0 ∧ t.length - i0 ≤ 16) = g0 := ⟨_, rfl⟩
  suffices hj21 : W pg9 l ev9 (headSpec wsX4_isHex ({ frames := 1, cells := 0, slots := 0, locals := 20 })).room s m ([.ref (ad 52), .int y1, .int y2, .int (bI mi)] : List Value).toArray below meth cd s.heap [] 0 0 (MQ below (va_Qi (fun r c' => ((∃ vv, pHex (t.drop i0) mi = some vv ∧ r = 1 ∧ c' 52 = rO ad x0 x1 x2 x3 x4 x5 x6 x7 x8 x9 x10 x11 x12 vv) ∨ (pHex (t.drop i0) mi = none ∧ r = 0 ∧ ∃ vv, c' 52 = rO ad x0 x1 x2 x3 x4 x5 x6 x7 x8 x9 x10 x11 x12 vv)) ∧ ∀ j, j ≠ 52 → c' j = c j) (mW D n ad) (mA n ad s.heap.size)) ([.ref (ad 52), .int y1, .int y2, .int (bI mi)] : List Value).toArray s 0 0 (mA n ad s.heap.size)) (F0 m 21 ls [.int (bI g0)]) by
    subst hg0
    refine lv_iload_n hx hb dX4_isHex_3 rfl (lv_at hl 2 rfl) ?_
    refine lv_iload_n hx hb dX4_isHex_4 rfl (lv_at hl 3 rfl) ?_
    refine lv_icmp_ge (tgt := 20) hx hb dX4_isHex_5 (by decide) (fun hc1 => ?_) (fun hc1 => ?_)
    · skip
      refine lv_iconst (v := 0) hx hb dX4_isHex_20 (by decide) ?_
      refine mx_i (bI (decide (1 ≤ t.length - i0 ∧ t.length - i0 ≤ 16))) (by rw [decide_eq_false (by have := (nI_leI (a := off + t.length) (b := off + i0) (by omega) (by omega)).mp (by rw [← hy1, ← hy2]; exact hc1); omega)]; rfl) ?_
      exact hj21
    · skip
      have hlt : i0 < t.length := by have := (not_congr (nI_leI (a := off + t.length) (b := off + i0) (by omega) (by omega))).mp (by rw [← hy1, ← hy2]; exact hc1); omega
      refine lv_iload_n hx hb dX4_isHex_8 rfl (lv_at hl 3 rfl) ?_
      refine lv_iload_n hx hb dX4_isHex_9 rfl (lv_at hl 2 rfl) ?_
      refine lv_isub hx hb dX4_isHex_10 ?_
      refine mx_i (nI (t.length - i0)) (by rw [hy1, hy2, pk_sub (by omega)]; congr 1; omega) ?_
      refine lv_bipush (v := 16) hx hb dX4_isHex_11 (by decide) ?_
      refine lv_icmp_gt (tgt := 20) hx hb dX4_isHex_13 (by decide) (fun hc2 => ?_) (fun hc2 => ?_)
      · skip
        refine lv_iconst (v := 0) hx hb dX4_isHex_20 (by decide) ?_
        refine mx_i (bI (decide (1 ≤ t.length - i0 ∧ t.length - i0 ≤ 16))) (by rw [decide_eq_false (by have := (nI_ltI (a := 16) (by omega) (by omega)).mp hc2; omega)]; rfl) ?_
        exact hj21
      · skip
        refine lv_iconst (v := 1) hx hb dX4_isHex_16 (by decide) ?_
        refine lv_goto (tgt := 21) hx hb dX4_isHex_17 (by decide) ?_
        refine mx_i (bI (decide (1 ≤ t.length - i0 ∧ t.length - i0 ≤ 16))) (by rw [decide_eq_true (by have := (not_congr (nI_ltI (a := 16) (b := t.length - i0) (by omega) (by omega))).mp hc2; omega)]; rfl) ?_
        exact hj21
  have loop : ∀ (q1 : Nat) (i : Nat) (g : Bool) (v1 : Int64) (v0 : Int64) (c1 : Nat → va_E) (H : Heap) (locs : List Loc) (ls : Array Slot), (i ≤ t.length) → (t.length < i + q1) → (g = true → (1 ≤ (t.drop i0).length ∧ (t.drop i0).length ≤ 16) ∧ hxRd (t.drop i0) 0 = hxRd (t.drop i) v1) → (g = false → pHex (t.drop i0) mi = none) → (c1 52 = rO ad x0 x1 x2 x3 x4 x5 x6 x7 x8 x9 x10 x11 x12 v0) → (∀ j, j ≠ 52 → c1 j = c j) → va_P D vwCl (mw n ad c1) H → va_S (mA n ad s.heap.size) s.heap H locs → lv_has ls 9 [(7, .int (nI (off + i))), (6, .int (bI g)), (4, .long v1), (0, .ref (ad 52)), (2, .int y2), (3, .int (bI mi))] → W pg9 l ev9 (headSpec wsX4_isHex ({ frames := 1, cells := 0, slots := 0, locals := 20 })).room s m ([.ref (ad 52), .int y1, .int y2, .int (bI mi)] : List Value).toArray below meth cd H locs 0 0 (MQ below (va_Qi (fun r c' => ((∃ vv, pHex (t.drop i0) mi = some vv ∧ r = 1 ∧ c' 52 = rO ad x0 x1 x2 x3 x4 x5 x6 x7 x8 x9 x10 x11 x12 vv) ∨ (pHex (t.drop i0) mi = none ∧ r = 0 ∧ ∃ vv, c' 52 = rO ad x0 x1 x2 x3 x4 x5 x6 x7 x8 x9 x10 x11 x12 vv)) ∧ ∀ j, j ≠ 52 → c' j = c j) (mW D n ad) (mA n ad s.heap.size)) ([.ref (ad 52), .int y1, .int y2, .int (bI mi)] : List Value).toArray s 0 0 (mA n ad s.heap.size)) (F0 m 26 ls []) := by
    intro q1
    induction q1 with
    | zero => intro i g v1 v0 c1 H locs ls hi hq hgt hgf hO1 hs1 hP hS hl; omega
    | succ q1 ih =>
      intro i g v1 v0 c1 H locs ls hi hq hgt hgf hO1 hs1 hP hS hl
      have h55 := (hs1 55 (by omega)).trans h55
      refine lv_iload hx hb dX4_isHex_26 (lv_at hl 0 rfl) ?_
      refine lv_iload_n hx hb dX4_isHex_28 rfl (lv_at hl 4 rfl) ?_
      refine lv_icmp_ge (tgt := 78) hx hb dX4_isHex_29 (by decide) (fun hc3 => ?_) (fun hc3 => ?_)
      · skip
        have hex2 : g = true → t.length ≤ i := fun _ => by have := (nI_leI (a := off + t.length) (b := off + i) (by omega) (by omega)).mp (by rw [← hy2]; exact hc3); omega
        refine lv_aload_n hx hb dX4_isHex_78 rfl (lv_at hl 3 rfl) ?_
        suffices hj91 : W pg9 l ev9 (headSpec wsX4_isHex ({ frames := 1, cells := 0, slots := 0, locals := 20 })).room s m ([.ref (ad 52), .int y1, .int y2, .int (bI mi)] : List Value).toArray below meth cd H locs 0 0 (MQ below (va_Qi (fun r c' => ((∃ vv, pHex (t.drop i0) mi = some vv ∧ r = 1 ∧ c' 52 = rO ad x0 x1 x2 x3 x4 x5 x6 x7 x8 x9 x10 x11 x12 vv) ∨ (pHex (t.drop i0) mi = none ∧ r = 0 ∧ ∃ vv, c' 52 = rO ad x0 x1 x2 x3 x4 x5 x6 x7 x8 x9 x10 x11 x12 vv)) ∧ ∀ j, j ≠ 52 → c' j = c j) (mW D n ad) (mA n ad s.heap.size)) ([.ref (ad 52), .int y1, .int y2, .int (bI mi)] : List Value).toArray s 0 0 (mA n ad s.heap.size)) (F0 m 91 ls [.long (if mi = true then -v1 else v1), .ref (ad 52)]) by
          refine lv_iload_n hx hb dX4_isHex_79 rfl (lv_at hl 5 rfl) ?_
          refine lv_if_eq (tgt := 89) hx hb dX4_isHex_80 (by decide) (fun hc7 => ?_) (fun hc7 => ?_)
          · skip
            refine lv_lload hx hb dX4_isHex_89 (lv_at hl 2 rfl) ?_
            refine mx_l (if mi = true then -v1 else v1) (by rw [if_neg (by rw [bI_eq hc7]; decide)]) ?_
            exact hj91
          · skip
            refine lv_lload hx hb dX4_isHex_83 (lv_at hl 2 rfl) ?_
            refine lv_lneg hx hb dX4_isHex_85 ?_
            refine lv_goto (tgt := 91) hx hb dX4_isHex_86 (by decide) ?_
            refine mx_l (if mi = true then -v1 else v1) (by rw [if_pos (bI_ne hc7)]) ?_
            exact hj91
        refine mx_put (ci := 4) (v := .long (if mi = true then -v1 else v1)) (ty := .long) (C := RX4) (T := TX4) (N := 20) hx hb hts inX4 tyX4 tyX4_ok nmX4 hown hK hP hD hS (by omega : 52 < n) hO1 rfl 19 (by decide) (hts _ wm_287) (fun _ h9 => h9) rfl (by decide +kernel) rfl rfl (Nat.le_of_ble_eq_true rfl) dX4_isHex_91 (fun H locs hP hS => ?_)
        obtain ⟨c2, ec2⟩ : ∃ z : Nat → va_E, z = va_up c1 52 (.inr (4, [.ref (ad 53), .ref (ad 54), .ref (ad 55), .ref (ad 56), .int x0, .int x1, .int x2, .int x3, .int x4, .ref (ad 57), .int x5, .int x6, .int x7, .int x8, .int x9, .int x10, .int x11, .ref (ad 58), .int x12, .long (if mi = true then -v1 else v1)])) := ⟨_, rfl⟩
        have hP : va_P D vwCl (mw n ad c2) H := by rw [ec2]; exact hP
        have hsc2 : ∀ j, j ≠ 52 → c2 j = c1 j := fun j h => by rw [ec2]; exact va_up_ne _ _ h
        have hcc2 : c2 52 = .inr (4, [.ref (ad 53), .ref (ad 54), .ref (ad 55), .ref (ad 56), .int x0, .int x1, .int x2, .int x3, .int x4, .ref (ad 57), .int x5, .int x6, .int x7, .int x8, .int x9, .int x10, .int x11, .ref (ad 58), .int x12, .long (if mi = true then -v1 else v1)]) := by rw [ec2]; exact va_up_self _ _ _
        refine lv_iload hx hb dX4_isHex_94 (lv_at hl 1 rfl) ?_
        have hfin : ((∃ vv, pHex (t.drop i0) mi = some vv ∧ bI g = 1 ∧ c2 52 = rO ad x0 x1 x2 x3 x4 x5 x6 x7 x8 x9 x10 x11 x12 vv) ∨ (pHex (t.drop i0) mi = none ∧ bI g = 0 ∧ ∃ vv, c2 52 = rO ad x0 x1 x2 x3 x4 x5 x6 x7 x8 x9 x10 x11 x12 vv)) ∧ ∀ j, j ≠ 52 → c2 j = c j := by
          refine ⟨?_, fun j h => (hsc2 j h).trans (hs1 j h)⟩
          cases g
          · exact Or.inr ⟨hgf rfl, rfl, _, hcc2⟩
          · obtain ⟨hl1, hrd⟩ := hgt rfl
            have hge : t.length ≤ i := hex2 rfl
            refine Or.inl ⟨_, ?_, rfl, hcc2⟩
            unfold pHex
            rw [if_pos hl1, hrd, dr_nil hge]
            rfl
        cases g
        · skip
          exact mx_zret hx hb hr hlocks rfl hP hS (hfin) dX4_isHex_96
        · skip
          exact mx_zret hx hb hr hlocks rfl hP hS (hfin) dX4_isHex_96
      · skip
        have hlt : i < t.length := by have := (not_congr (nI_leI (a := off + t.length) (b := off + i) (by omega) (by omega))).mp (by rw [← hy2]; exact hc3); omega
        refine lv_iload hx hb dX4_isHex_32 (lv_at hl 1 rfl) ?_
        refine lv_if_eq (tgt := 78) hx hb dX4_isHex_34 (by decide) (fun hc4 => ?_) (fun hc4 => ?_)
        · skip
          have hex2 : g = true → t.length ≤ i := fun h => absurd (bI_eq hc4) (by rw [h]; decide)
          refine lv_aload_n hx hb dX4_isHex_78 rfl (lv_at hl 3 rfl) ?_
          suffices hj91 : W pg9 l ev9 (headSpec wsX4_isHex ({ frames := 1, cells := 0, slots := 0, locals := 20 })).room s m ([.ref (ad 52), .int y1, .int y2, .int (bI mi)] : List Value).toArray below meth cd H locs 0 0 (MQ below (va_Qi (fun r c' => ((∃ vv, pHex (t.drop i0) mi = some vv ∧ r = 1 ∧ c' 52 = rO ad x0 x1 x2 x3 x4 x5 x6 x7 x8 x9 x10 x11 x12 vv) ∨ (pHex (t.drop i0) mi = none ∧ r = 0 ∧ ∃ vv, c' 52 = rO ad x0 x1 x2 x3 x4 x5 x6 x7 x8 x9 x10 x11 x12 vv)) ∧ ∀ j, j ≠ 52 → c' j = c j) (mW D n ad) (mA n ad s.heap.size)) ([.ref (ad 52), .int y1, .int y2, .int (bI mi)] : List Value).toArray s 0 0 (mA n ad s.heap.size)) (F0 m 91 ls [.long (if mi = true then -v1 else v1), .ref (ad 52)]) by
            refine lv_iload_n hx hb dX4_isHex_79 rfl (lv_at hl 5 rfl) ?_
            refine lv_if_eq (tgt := 89) hx hb dX4_isHex_80 (by decide) (fun hc7 => ?_) (fun hc7 => ?_)
            · skip
              refine lv_lload hx hb dX4_isHex_89 (lv_at hl 2 rfl) ?_
              refine mx_l (if mi = true then -v1 else v1) (by rw [if_neg (by rw [bI_eq hc7]; decide)]) ?_
              exact hj91
            · skip
              refine lv_lload hx hb dX4_isHex_83 (lv_at hl 2 rfl) ?_
              refine lv_lneg hx hb dX4_isHex_85 ?_
              refine lv_goto (tgt := 91) hx hb dX4_isHex_86 (by decide) ?_
              refine mx_l (if mi = true then -v1 else v1) (by rw [if_pos (bI_ne hc7)]) ?_
              exact hj91
          refine mx_put (ci := 4) (v := .long (if mi = true then -v1 else v1)) (ty := .long) (C := RX4) (T := TX4) (N := 20) hx hb hts inX4 tyX4 tyX4_ok nmX4 hown hK hP hD hS (by omega : 52 < n) hO1 rfl 19 (by decide) (hts _ wm_287) (fun _ h9 => h9) rfl (by decide +kernel) rfl rfl (Nat.le_of_ble_eq_true rfl) dX4_isHex_91 (fun H locs hP hS => ?_)
          obtain ⟨c2, ec2⟩ : ∃ z : Nat → va_E, z = va_up c1 52 (.inr (4, [.ref (ad 53), .ref (ad 54), .ref (ad 55), .ref (ad 56), .int x0, .int x1, .int x2, .int x3, .int x4, .ref (ad 57), .int x5, .int x6, .int x7, .int x8, .int x9, .int x10, .int x11, .ref (ad 58), .int x12, .long (if mi = true then -v1 else v1)])) := ⟨_, rfl⟩
          have hP : va_P D vwCl (mw n ad c2) H := by rw [ec2]; exact hP
          have hsc2 : ∀ j, j ≠ 52 → c2 j = c1 j := fun j h => by rw [ec2]; exact va_up_ne _ _ h
          have hcc2 : c2 52 = .inr (4, [.ref (ad 53), .ref (ad 54), .ref (ad 55), .ref (ad 56), .int x0, .int x1, .int x2, .int x3, .int x4, .ref (ad 57), .int x5, .int x6, .int x7, .int x8, .int x9, .int x10, .int x11, .ref (ad 58), .int x12, .long (if mi = true then -v1 else v1)]) := by rw [ec2]; exact va_up_self _ _ _
          refine lv_iload hx hb dX4_isHex_94 (lv_at hl 1 rfl) ?_
          have hfin : ((∃ vv, pHex (t.drop i0) mi = some vv ∧ bI g = 1 ∧ c2 52 = rO ad x0 x1 x2 x3 x4 x5 x6 x7 x8 x9 x10 x11 x12 vv) ∨ (pHex (t.drop i0) mi = none ∧ bI g = 0 ∧ ∃ vv, c2 52 = rO ad x0 x1 x2 x3 x4 x5 x6 x7 x8 x9 x10 x11 x12 vv)) ∧ ∀ j, j ≠ 52 → c2 j = c j := by
            refine ⟨?_, fun j h => (hsc2 j h).trans (hs1 j h)⟩
            cases g
            · exact Or.inr ⟨hgf rfl, rfl, _, hcc2⟩
            · obtain ⟨hl1, hrd⟩ := hgt rfl
              have hge : t.length ≤ i := hex2 rfl
              refine Or.inl ⟨_, ?_, rfl, hcc2⟩
              unfold pHex
              rw [if_pos hl1, hrd, dr_nil hge]
              rfl
          cases g
          · skip
            exact mx_zret hx hb hr hlocks rfl hP hS (hfin) dX4_isHex_96
          · skip
            exact mx_zret hx hb hr hlocks rfl hP hS (hfin) dX4_isHex_96
        · skip
          have hgT : g = true := bI_ne hc4
          obtain ⟨hl1, hrd⟩ := hgt hgT
          have hb8 : t.getD i 0 < 256 := hby _ (gD_mem hlt)
          refine lv_aload_n hx hb dX4_isHex_37 rfl (lv_at hl 3 rfl) ?_
          refine mx_get (ci := 4) (v := .ref (ad 55)) (C := RX4) (T := TX4) (N := 20) hx hb hts inX4 hown hK hP (by omega : 52 < n) hO1 rfl 2 (by decide) (hts _ wm_270) (fun _ h9 => h9) rfl dX4_isHex_38 ?_
          refine lv_iload hx hb dX4_isHex_41 (lv_at hl 0 rfl) ?_
          refine mx_bald hx hb hK hP (by omega : 55 < n) 2 h55 rfl (vp_in_nI (by omega) (by omega)) dX4_isHex_43 ?_
          refine mx_i (sB (t.getD i 0)) (by rw [nI_clamp (by omega)]; exact hf i hlt) ?_
          refine mx_ci (va_runS (As := [.int (sB (t.getD i 0))]) (rest := []) ⟨hx, hb, hml, hown, hts⟩ (c_hex l D ca n ad c1 (sB (t.getD i 0)) _) (cwS 1 hts (gS wm_408 wm_409 wm_5 wm_410) rfl rfl rfl (by decide +kernel) ⟨Nat.le_of_ble_eq_true rfl, Nat.le_of_ble_eq_true rfl⟩) (mx_ps hK hP hD hN) rfl rfl hl.1 rfl (lv_room (Nat.le_of_ble_eq_true rfl)) dX4_isHex_44 ⟨Nat.zero_le _, Nat.zero_le _⟩) (Nat.le_refl _) hS (fun r c2 H locs hw hP hS => ?_)
          obtain ⟨hcE, hrx⟩ := hw
          rw [hcE] at hP
          rw [hexF_sB _ hb8] at hrx
          refine lv_istore (lv' := [(8, .int r), (7, .int (nI (off + i))), (6, .int (bI g)), (4, .long v1), (0, .ref (ad 52)), (2, .int y2), (3, .int (bI mi))]) hx hb dX4_isHex_47 hl (by decide) rfl (fun ls hl => ?_)
          suffices hj60 : W pg9 l ev9 (headSpec wsX4_isHex ({ frames := 1, cells := 0, slots := 0, locals := 20 })).room s m ([.ref (ad 52), .int y1, .int y2, .int (bI mi)] : List Value).toArray below meth cd H locs 0 0 (MQ below (va_Qi (fun r c' => ((∃ vv, pHex (t.drop i0) mi = some vv ∧ r = 1 ∧ c' 52 = rO ad x0 x1 x2 x3 x4 x5 x6 x7 x8 x9 x10 x11 x12 vv) ∨ (pHex (t.drop i0) mi = none ∧ r = 0 ∧ ∃ vv, c' 52 = rO ad x0 x1 x2 x3 x4 x5 x6 x7 x8 x9 x10 x11 x12 vv)) ∧ ∀ j, j ≠ 52 → c' j = c j) (mW D n ad) (mA n ad s.heap.size)) ([.ref (ad 52), .int y1, .int y2, .int (bI mi)] : List Value).toArray s 0 0 (mA n ad s.heap.size)) (F0 m 60 ls [.int (bI (hxG (t.getD i 0)))]) by
            refine lv_iload hx hb dX4_isHex_49 (lv_at hl 0 rfl) ?_
            refine lv_iconst (v := (-1)) hx hb dX4_isHex_51 (by decide) ?_
            refine lv_icmp_eq (tgt := 59) hx hb dX4_isHex_52 (by decide) (fun hc5 => ?_) (fun hc5 => ?_)
            · skip
              refine lv_iconst (v := 0) hx hb dX4_isHex_59 (by decide) ?_
              refine mx_i (bI (hxG (t.getD i 0))) (by rw [hrx] at hc5; rw [show hxG (t.getD i 0) = false from hxG_f hc5]; rfl) ?_
              exact hj60
            · skip
              refine lv_iconst (v := 1) hx hb dX4_isHex_55 (by decide) ?_
              refine lv_goto (tgt := 60) hx hb dX4_isHex_56 (by decide) ?_
              refine mx_i (bI (hxG (t.getD i 0))) (by rw [hrx] at hc5; rw [show hxG (t.getD i 0) = true from hxG_t hc5]; rfl) ?_
              exact hj60
          refine lv_istore (lv' := [(6, .int (bI (hxG (t.getD i 0)))), (8, .int r), (7, .int (nI (off + i))), (4, .long v1), (0, .ref (ad 52)), (2, .int y2), (3, .int (bI mi))]) hx hb dX4_isHex_60 hl (by decide) rfl (fun ls hl => ?_)
          refine lv_lload hx hb dX4_isHex_62 (lv_at hl 3 rfl) ?_
          refine lv_iconst (v := 4) hx hb dX4_isHex_64 (by decide) ?_
          refine lv_lshl (v := v1 <<< ((4 : Int32).toInt64 &&& 63)) hx hb dX4_isHex_65 rfl ?_
          refine lv_iload hx hb dX4_isHex_66 (lv_at hl 1 rfl) ?_
          refine lv_i2l (v := r.toInt64) hx hb dX4_isHex_68 rfl ?_
          refine lv_lor hx hb dX4_isHex_69 ?_
          refine lv_lstore (lv' := [(4, .long ((v1 <<< ((4 : Int32).toInt64 &&& 63)) ||| r.toInt64)), (6, .int (bI (hxG (t.getD i 0)))), (8, .int r), (7, .int (nI (off + i))), (0, .ref (ad 52)), (2, .int y2), (3, .int (bI mi))]) hx hb dX4_isHex_70 hl (by decide) rfl (fun ls hl => ?_)
          have hrd2 : hxG (t.getD i 0) = true → hxRd (t.drop i0) 0 = hxRd (t.drop (i + 1)) (v1 <<< ((4 : Int32).toInt64 &&& 63) ||| r.toInt64) := fun h => by
            obtain ⟨d, hd⟩ := hxG_some h
            rw [hrd, dr_cons hlt, hrx, hxI_t hd]
            show (match hxD _ with | some d => hxRd _ _ | none => none : Option Int64) = _
            rw [hd]
          have hgf2 : hxG (t.getD i 0) = false → pHex (t.drop i0) mi = none := fun h => by
            unfold pHex
            rw [if_pos hl1, hrd, dr_cons hlt]
            show (match (match hxD _ with | some d => hxRd _ _ | none => none : Option Int64) with | some v => some (if mi = true then -v else v) | none => none : Option Int64) = _
            rw [hxG_none h]
          refine lv_iinc (v := nI (off + (i + 1))) (lv' := [(7, .int (nI (off + (i + 1)))), (4, .long ((v1 <<< ((4 : Int32).toInt64 &&& 63)) ||| r.toInt64)), (6, .int (bI (hxG (t.getD i 0)))), (8, .int r), (0, .ref (ad 52)), (2, .int y2), (3, .int (bI mi))]) hx hb dX4_isHex_72 hl (k := 3) rfl (nI_1 (off + i)) (by decide) rfl (fun ls hl => ?_)
          refine lv_goto (tgt := 26) hx hb dX4_isHex_75 (by decide) ?_
          exact ih (i + 1) (hxG (t.getD i 0)) _ v0 c1 H locs ls (by omega) (by omega) (fun h => ⟨hl1, hrd2 h⟩) hgf2 hO1 hs1 hP hS (lv_sub hl [0, 2, 1, 4, 5, 6] rfl)
  refine lv_istore (lv' := [(6, .int (bI g0)), (4, .long 0), (0, .ref (ad 52)), (1, .int y1), (2, .int y2), (3, .int (bI mi))]) hx hb dX4_isHex_21 hl (by decide) rfl (fun ls hl => ?_)
  refine lv_iload_n hx hb dX4_isHex_23 rfl (lv_at hl 3 rfl) ?_
  refine lv_istore (lv' := [(7, .int y1), (6, .int (bI g0)), (4, .long 0), (0, .ref (ad 52)), (1, .int y1), (2, .int y2), (3, .int (bI mi))]) hx hb dX4_isHex_24 hl (by decide) rfl (fun ls hl => ?_)
  exact loop (t.length + 1 - i0) i0 g0 0 v c _ _ ls hi0 (by omega) (fun h => ⟨by rw [List.length_drop]; rw [h] at hg0; exact of_decide_eq_true hg0, rfl⟩) (fun h => by rw [h] at hg0; unfold pHex; rw [if_neg (by rw [List.length_drop]; exact of_decide_eq_false hg0)]) hO (fun j h => rfl) hP hS (by have h9 := (lv_sub hl [0, 1, 2, 3, 5, 6] rfl); rw [← hy1]; exact h9)
end
section
set_option maxHeartbeats 4000000 in
set_option maxRecDepth 100000 in
/-- isDecimal -/
theorem c_isDec (l : Launch) (D : va_G) (ca : Nat → ClassId) (n : Nat) (ad : Nat → Nat) (c : Nat → va_E) {x0 x1 x2 x3 x4 x5 x6 x7 x8 x9 x10 x11 x12 : Int32} {v : Int64} (hn : 59 ≤ n) (hO : c 52 = rO ad x0 x1 x2 x3 x4 x5 x6 x7 x8 x9 x10 x11 x12 v) {off : Nat} {t : List Nat} (hB : tB ca c 55 800 off t) (y1 y2 : Int32) (i0 : Nat) (mi : Bool) (hy1 : y1 = nI (off + i0)) (hy2 : y2 = nI (off + t.length)) (hi0 : i0 ≤ t.length) : mInt l yX4_isDecimal wsX4_isDecimal ({ frames := 0, cells := 0, slots := 0, locals := 0 }) [.ref (ad 52), .int y1, .int y2, .int (bI mi)] D (tTY ca) n ad c (fun r c' => ((∃ vv, pDec (t.drop i0) mi = some vv ∧ r = 1 ∧ c' 52 = rO ad x0 x1 x2 x3 x4 x5 x6 x7 x8 x9 x10 x11 x12 vv) ∨ (pDec (t.drop i0) mi = none ∧ r = 0 ∧ ∃ vv, c' 52 = rO ad x0 x1 x2 x3 x4 x5 x6 x7 x8 x9 x10 x11 x12 vv)) ∧ ∀ j, j ≠ 52 → c' j = c j) := by
  intro sz
  refine Met.ofW (cc := cX4_isDecimal) (maxL := 9) (ret := (some .boolean)) (by decide) rfl ?_
  intro pg9 ev9 s m args below meth cd s₁ B hml hv
  obtain ⟨rfl, hsz, hP, hK, hD0, hN⟩ := hv
  have hx := B.exec
  have hb := B.bytes
  have hr := B.returns
  have hts := fun (w : Cond) (h : w ∈ WSa) => atoms_spec (ws := wsX4_isDecimal) B.pre w (List.mem_cons_of_mem _ h)
  have hown : s.vm.findClass RX4 = some m.cls := findClass_of_methodNamed B.named
  have hlocks := B.notSynchronized
  subst hsz
  have hD : ∀ c, va_D (fun _ => True) (mw n ad c) := fun c' => mw_D hD0 c'
  have hS : va_S (mA n ad s.heap.size) s.heap s.heap [] := va_S.rf
  have hl := lv_entry ([.ref (ad 52), .int y1, .int y2, .int (bI mi)]) (n := 9) (Nat.le_of_ble_eq_true rfl)
  rw [lg_entry_eq]
  generalize (lg_sl ([.ref (ad 52), .int y1, .int y2, .int (bI mi)]) ++ List.replicate (9 - (lg_sl ([.ref (ad 52), .int y1, .int y2, .int (bI mi)])).length) Slot.unset).toArray = ls at hl ⊢
  have hl : lv_has ls 9 [(0, .ref (ad 52)), (1, .int y1), (2, .int y2), (3, .int (bI mi))] := hl
  obtain ⟨hle, hcp, hby, f, h55, hf⟩ := id hB
  refine lv_lconst (v := 0) hx hb dX4_isDecimal_0 (by decide) ?_
  refine lv_lstore (lv' := [(4, .long 0), (0, .ref (ad 52)), (1, .int y1), (2, .int y2), (3, .int (bI mi))]) hx hb dX4_isDecimal_1 hl (by decide) rfl (fun ls hl => ?_)
  suffices hj13 : W pg9 l ev9 (headSpec wsX4_isDecimal ({ frames := 0, cells := 0, slots := 0, locals := 0 })).room s m ([.ref (ad 52), .int y1, .int y2, .int (bI mi)] : List Value).toArray below meth cd s.heap [] 0 0 (MQ below (va_Qi (fun r c' => ((∃ vv, pDec (t.drop i0) mi = some vv ∧ r = 1 ∧ c' 52 = rO ad x0 x1 x2 x3 x4 x5 x6 x7 x8 x9 x10 x11 x12 vv) ∨ (pDec (t.drop i0) mi = none ∧ r = 0 ∧ ∃ vv, c' 52 = rO ad x0 x1 x2 x3 x4 x5 x6 x7 x8 x9 x10 x11 x12 vv)) ∧ ∀ j, j ≠ 52 → c' j = c j) (mW D n ad) (mA n ad s.heap.size)) ([.ref (ad 52), .int y1, .int y2, .int (bI mi)] : List Value).toArray s 0 0 (mA n ad s.heap.size)) (F0 m 13 ls [.int (bI (decide (i0 < t.length)))]) by
    refine lv_iload_n hx hb dX4_isDecimal_3 rfl (lv_at hl 2 rfl) ?_
    refine lv_iload_n hx hb dX4_isDecimal_4 rfl (lv_at hl 3 rfl) ?_
    refine lv_icmp_ge (tgt := 12) hx hb dX4_isDecimal_5 (by decide) (fun hc1 => ?_) (fun hc1 => ?_)
    · skip
      refine lv_iconst (v := 0) hx hb dX4_isDecimal_12 (by decide) ?_
      refine mx_i (bI (decide (i0 < t.length))) (by rw [decide_eq_false (by have := (nI_leI (a := off + t.length) (b := off + i0) (by omega) (by omega)).mp (by rw [← hy1, ← hy2]; exact hc1); omega)]; rfl) ?_
      exact hj13
    · skip
      refine lv_iconst (v := 1) hx hb dX4_isDecimal_8 (by decide) ?_
      refine lv_goto (tgt := 13) hx hb dX4_isDecimal_9 (by decide) ?_
      refine mx_i (bI (decide (i0 < t.length))) (by rw [decide_eq_true (by have := (not_congr (nI_leI (a := off + t.length) (b := off + i0) (by omega) (by omega))).mp (by rw [← hy1, ← hy2]; exact hc1); omega)]; rfl) ?_
      exact hj13
  have loop : ∀ (q1 : Nat) (i : Nat) (g : Bool) (v1 : Int64) (v0 : Int64) (c1 : Nat → va_E) (H : Heap) (locs : List Loc) (ls : Array Slot), (i ≤ t.length) → (t.length < i + q1) → (g = true → i0 < t.length ∧ gRd (t.drop i0) 0 = gRd (t.drop i) v1) → (g = false → pDec (t.drop i0) mi = none) → (c1 52 = rO ad x0 x1 x2 x3 x4 x5 x6 x7 x8 x9 x10 x11 x12 v0) → (∀ j, j ≠ 52 → c1 j = c j) → va_P D vwCl (mw n ad c1) H → va_S (mA n ad s.heap.size) s.heap H locs → lv_has ls 9 [(7, .int (nI (off + i))), (6, .int (bI g)), (4, .long v1), (0, .ref (ad 52)), (2, .int y2), (3, .int (bI mi))] → W pg9 l ev9 (headSpec wsX4_isDecimal ({ frames := 0, cells := 0, slots := 0, locals := 0 })).room s m ([.ref (ad 52), .int y1, .int y2, .int (bI mi)] : List Value).toArray below meth cd H locs 0 0 (MQ below (va_Qi (fun r c' => ((∃ vv, pDec (t.drop i0) mi = some vv ∧ r = 1 ∧ c' 52 = rO ad x0 x1 x2 x3 x4 x5 x6 x7 x8 x9 x10 x11 x12 vv) ∨ (pDec (t.drop i0) mi = none ∧ r = 0 ∧ ∃ vv, c' 52 = rO ad x0 x1 x2 x3 x4 x5 x6 x7 x8 x9 x10 x11 x12 vv)) ∧ ∀ j, j ≠ 52 → c' j = c j) (mW D n ad) (mA n ad s.heap.size)) ([.ref (ad 52), .int y1, .int y2, .int (bI mi)] : List Value).toArray s 0 0 (mA n ad s.heap.size)) (F0 m 18 ls []) := by
    intro q1
    induction q1 with
    | zero => intro i g v1 v0 c1 H locs ls hi hq hgt hgf hO1 hs1 hP hS hl; omega
    | succ q1 ih =>
      intro i g v1 v0 c1 H locs ls hi hq hgt hgf hO1 hs1 hP hS hl
      have h55 := (hs1 55 (by omega)).trans h55
      refine lv_iload hx hb dX4_isDecimal_18 (lv_at hl 0 rfl) ?_
      refine lv_iload_n hx hb dX4_isDecimal_20 rfl (lv_at hl 4 rfl) ?_
      refine lv_icmp_ge (tgt := 113) hx hb dX4_isDecimal_21 (by decide) (fun hc3 => ?_) (fun hc3 => ?_)
      · skip
        have hex2 : g = true → t.length ≤ i := fun _ => by have := (nI_leI (a := off + t.length) (b := off + i) (by omega) (by omega)).mp (by rw [← hy2]; exact hc3); omega
        suffices hj136 : W pg9 l ev9 (headSpec wsX4_isDecimal ({ frames := 0, cells := 0, slots := 0, locals := 0 })).room s m ([.ref (ad 52), .int y1, .int y2, .int (bI mi)] : List Value).toArray below meth cd H locs 0 0 (MQ below (va_Qi (fun r c' => ((∃ vv, pDec (t.drop i0) mi = some vv ∧ r = 1 ∧ c' 52 = rO ad x0 x1 x2 x3 x4 x5 x6 x7 x8 x9 x10 x11 x12 vv) ∨ (pDec (t.drop i0) mi = none ∧ r = 0 ∧ ∃ vv, c' 52 = rO ad x0 x1 x2 x3 x4 x5 x6 x7 x8 x9 x10 x11 x12 vv)) ∧ ∀ j, j ≠ 52 → c' j = c j) (mW D n ad) (mA n ad s.heap.size)) ([.ref (ad 52), .int y1, .int y2, .int (bI mi)] : List Value).toArray s 0 0 (mA n ad s.heap.size)) (F0 m 136 ls [.int (bI (g && (mi || decide (¬ v1 = -9223372036854775808))))]) by
          refine lv_iload hx hb dX4_isDecimal_113 (lv_at hl 1 rfl) ?_
          refine lv_if_eq (tgt := 135) hx hb dX4_isDecimal_115 (by decide) (fun hc7 => ?_) (fun hc7 => ?_)
          · skip
            refine lv_iconst (v := 0) hx hb dX4_isDecimal_135 (by decide) ?_
            refine mx_i (bI (g && (mi || decide (¬ v1 = -9223372036854775808)))) (by rw [bI_eq hc7]; rfl) ?_
            exact hj136
          · skip
            refine lv_iload_n hx hb dX4_isDecimal_118 rfl (lv_at hl 5 rfl) ?_
            refine lv_if_ne (tgt := 131) hx hb dX4_isDecimal_119 (by decide) (fun hc8 => ?_) (fun hc8 => ?_)
            · skip
              refine lv_iconst (v := 1) hx hb dX4_isDecimal_131 (by decide) ?_
              refine lv_goto (tgt := 136) hx hb dX4_isDecimal_132 (by decide) ?_
              refine mx_i (bI (g && (mi || decide (¬ v1 = -9223372036854775808)))) (by rw [bI_ne hc7, bI_ne hc8]; rfl) ?_
              exact hj136
            · skip
              refine lv_lload hx hb dX4_isDecimal_122 (lv_at hl 2 rfl) ?_
              refine lv_ldc2 (v := (-9223372036854775808)) hx hb hown (hts _ wm_416) dX4_isDecimal_124 ?_
              refine W.lcmp hx hb dX4_isDecimal_127 ?_
              refine lv_if_eq (tgt := 135) hx hb dX4_isDecimal_128 (by decide) (fun hc9 => ?_) (fun hc9 => ?_)
              · skip
                refine lv_iconst (v := 0) hx hb dX4_isDecimal_135 (by decide) ?_
                refine mx_i (bI (g && (mi || decide (¬ v1 = -9223372036854775808)))) (by rw [bI_ne hc7, bI_eq hc8, decide_eq_false (fun h => h ((lg_cmp_eq _ _).mp hc9))]; rfl) ?_
                exact hj136
              · skip
                refine lv_iconst (v := 1) hx hb dX4_isDecimal_131 (by decide) ?_
                refine lv_goto (tgt := 136) hx hb dX4_isDecimal_132 (by decide) ?_
                refine mx_i (bI (g && (mi || decide (¬ v1 = -9223372036854775808)))) (by rw [bI_ne hc7, bI_eq hc8, decide_eq_true (p := ¬ v1 = -9223372036854775808) (fun h => hc9 ((lg_cmp_eq _ _).mpr h))]; rfl) ?_
                exact hj136
        refine lv_istore (lv' := [(6, .int (bI (g && (mi || decide (¬ v1 = -9223372036854775808))))), (7, .int (nI (off + i))), (4, .long v1), (0, .ref (ad 52)), (2, .int y2), (3, .int (bI mi))]) hx hb dX4_isDecimal_136 hl (by decide) rfl (fun ls hl => ?_)
        refine lv_aload_n hx hb dX4_isDecimal_138 rfl (lv_at hl 3 rfl) ?_
        suffices hj151 : W pg9 l ev9 (headSpec wsX4_isDecimal ({ frames := 0, cells := 0, slots := 0, locals := 0 })).room s m ([.ref (ad 52), .int y1, .int y2, .int (bI mi)] : List Value).toArray below meth cd H locs 0 0 (MQ below (va_Qi (fun r c' => ((∃ vv, pDec (t.drop i0) mi = some vv ∧ r = 1 ∧ c' 52 = rO ad x0 x1 x2 x3 x4 x5 x6 x7 x8 x9 x10 x11 x12 vv) ∨ (pDec (t.drop i0) mi = none ∧ r = 0 ∧ ∃ vv, c' 52 = rO ad x0 x1 x2 x3 x4 x5 x6 x7 x8 x9 x10 x11 x12 vv)) ∧ ∀ j, j ≠ 52 → c' j = c j) (mW D n ad) (mA n ad s.heap.size)) ([.ref (ad 52), .int y1, .int y2, .int (bI mi)] : List Value).toArray s 0 0 (mA n ad s.heap.size)) (F0 m 151 ls [.long (if mi = true then v1 else -v1), .ref (ad 52)]) by
          refine lv_iload_n hx hb dX4_isDecimal_139 rfl (lv_at hl 5 rfl) ?_
          refine lv_if_eq (tgt := 148) hx hb dX4_isDecimal_140 (by decide) (fun hc7 => ?_) (fun hc7 => ?_)
          · skip
            refine lv_lload hx hb dX4_isDecimal_148 (lv_at hl 2 rfl) ?_
            refine lv_lneg hx hb dX4_isDecimal_150 ?_
            refine mx_l (if mi = true then v1 else -v1) (by rw [if_neg (by rw [bI_eq hc7]; decide)]) ?_
            exact hj151
          · skip
            refine lv_lload hx hb dX4_isDecimal_143 (lv_at hl 2 rfl) ?_
            refine lv_goto (tgt := 151) hx hb dX4_isDecimal_145 (by decide) ?_
            refine mx_l (if mi = true then v1 else -v1) (by rw [if_pos (bI_ne hc7)]) ?_
            exact hj151
        refine mx_put (ci := 4) (v := .long (if mi = true then v1 else -v1)) (ty := .long) (C := RX4) (T := TX4) (N := 20) hx hb hts inX4 tyX4 tyX4_ok nmX4 hown hK hP hD hS (by omega : 52 < n) hO1 rfl 19 (by decide) (hts _ wm_287) (fun _ h9 => h9) rfl (by decide +kernel) rfl rfl (Nat.le_of_ble_eq_true rfl) dX4_isDecimal_151 (fun H locs hP hS => ?_)
        obtain ⟨c2, ec2⟩ : ∃ z : Nat → va_E, z = va_up c1 52 (.inr (4, [.ref (ad 53), .ref (ad 54), .ref (ad 55), .ref (ad 56), .int x0, .int x1, .int x2, .int x3, .int x4, .ref (ad 57), .int x5, .int x6, .int x7, .int x8, .int x9, .int x10, .int x11, .ref (ad 58), .int x12, .long (if mi = true then v1 else -v1)])) := ⟨_, rfl⟩
        have hP : va_P D vwCl (mw n ad c2) H := by rw [ec2]; exact hP
        have hsc2 : ∀ j, j ≠ 52 → c2 j = c1 j := fun j h => by rw [ec2]; exact va_up_ne _ _ h
        have hcc2 : c2 52 = .inr (4, [.ref (ad 53), .ref (ad 54), .ref (ad 55), .ref (ad 56), .int x0, .int x1, .int x2, .int x3, .int x4, .ref (ad 57), .int x5, .int x6, .int x7, .int x8, .int x9, .int x10, .int x11, .ref (ad 58), .int x12, .long (if mi = true then v1 else -v1)]) := by rw [ec2]; exact va_up_self _ _ _
        refine lv_iload hx hb dX4_isDecimal_154 (lv_at hl 0 rfl) ?_
        have hfin : ((∃ vv, pDec (t.drop i0) mi = some vv ∧ bI (g && (mi || decide (¬ v1 = -9223372036854775808))) = 1 ∧ c2 52 = rO ad x0 x1 x2 x3 x4 x5 x6 x7 x8 x9 x10 x11 x12 vv) ∨ (pDec (t.drop i0) mi = none ∧ bI (g && (mi || decide (¬ v1 = -9223372036854775808))) = 0 ∧ ∃ vv, c2 52 = rO ad x0 x1 x2 x3 x4 x5 x6 x7 x8 x9 x10 x11 x12 vv)) ∧ ∀ j, j ≠ 52 → c2 j = c j := by
          refine ⟨?_, fun j h => (hsc2 j h).trans (hs1 j h)⟩
          cases g
          · exact Or.inr ⟨hgf rfl, rfl, _, hcc2⟩
          · obtain ⟨hl1, hrd⟩ := hgt rfl
            have hge : t.length ≤ i := hex2 rfl
            rw [dr_nil hge] at hrd
            rw [pDec_s hl1 (hrd.trans rfl)]
            cases mi
            · by_cases hlow : v1 = -9223372036854775808
              · refine Or.inr ⟨by rw [if_neg (by decide), if_pos hlow], by rw [decide_eq_false (fun h => h hlow)]; rfl, _, hcc2⟩
              · refine Or.inl ⟨-v1, by rw [if_neg (by decide), if_neg hlow], by rw [decide_eq_true hlow]; rfl, hcc2⟩
            · exact Or.inl ⟨v1, if_pos rfl, rfl, hcc2⟩
        generalize (g && (mi || decide (¬ v1 = -9223372036854775808))) = gg at hfin ⊢
        cases gg
        · skip
          exact mx_zret hx hb hr hlocks rfl hP hS (hfin) dX4_isDecimal_156
        · skip
          exact mx_zret hx hb hr hlocks rfl hP hS (hfin) dX4_isDecimal_156
      · skip
        have hlt : i < t.length := by have := (not_congr (nI_leI (a := off + t.length) (b := off + i) (by omega) (by omega))).mp (by rw [← hy2]; exact hc3); omega
        refine lv_iload hx hb dX4_isDecimal_24 (lv_at hl 1 rfl) ?_
        refine lv_if_eq (tgt := 113) hx hb dX4_isDecimal_26 (by decide) (fun hc4 => ?_) (fun hc4 => ?_)
        · skip
          have hex2 : g = true → t.length ≤ i := fun h => absurd (bI_eq hc4) (by rw [h]; decide)
          suffices hj136 : W pg9 l ev9 (headSpec wsX4_isDecimal ({ frames := 0, cells := 0, slots := 0, locals := 0 })).room s m ([.ref (ad 52), .int y1, .int y2, .int (bI mi)] : List Value).toArray below meth cd H locs 0 0 (MQ below (va_Qi (fun r c' => ((∃ vv, pDec (t.drop i0) mi = some vv ∧ r = 1 ∧ c' 52 = rO ad x0 x1 x2 x3 x4 x5 x6 x7 x8 x9 x10 x11 x12 vv) ∨ (pDec (t.drop i0) mi = none ∧ r = 0 ∧ ∃ vv, c' 52 = rO ad x0 x1 x2 x3 x4 x5 x6 x7 x8 x9 x10 x11 x12 vv)) ∧ ∀ j, j ≠ 52 → c' j = c j) (mW D n ad) (mA n ad s.heap.size)) ([.ref (ad 52), .int y1, .int y2, .int (bI mi)] : List Value).toArray s 0 0 (mA n ad s.heap.size)) (F0 m 136 ls [.int (bI (g && (mi || decide (¬ v1 = -9223372036854775808))))]) by
            refine lv_iload hx hb dX4_isDecimal_113 (lv_at hl 1 rfl) ?_
            refine lv_if_eq (tgt := 135) hx hb dX4_isDecimal_115 (by decide) (fun hc7 => ?_) (fun hc7 => ?_)
            · skip
              refine lv_iconst (v := 0) hx hb dX4_isDecimal_135 (by decide) ?_
              refine mx_i (bI (g && (mi || decide (¬ v1 = -9223372036854775808)))) (by rw [bI_eq hc7]; rfl) ?_
              exact hj136
            · skip
              refine lv_iload_n hx hb dX4_isDecimal_118 rfl (lv_at hl 5 rfl) ?_
              refine lv_if_ne (tgt := 131) hx hb dX4_isDecimal_119 (by decide) (fun hc8 => ?_) (fun hc8 => ?_)
              · skip
                refine lv_iconst (v := 1) hx hb dX4_isDecimal_131 (by decide) ?_
                refine lv_goto (tgt := 136) hx hb dX4_isDecimal_132 (by decide) ?_
                refine mx_i (bI (g && (mi || decide (¬ v1 = -9223372036854775808)))) (by rw [bI_ne hc7, bI_ne hc8]; rfl) ?_
                exact hj136
              · skip
                refine lv_lload hx hb dX4_isDecimal_122 (lv_at hl 2 rfl) ?_
                refine lv_ldc2 (v := (-9223372036854775808)) hx hb hown (hts _ wm_416) dX4_isDecimal_124 ?_
                refine W.lcmp hx hb dX4_isDecimal_127 ?_
                refine lv_if_eq (tgt := 135) hx hb dX4_isDecimal_128 (by decide) (fun hc9 => ?_) (fun hc9 => ?_)
                · skip
                  refine lv_iconst (v := 0) hx hb dX4_isDecimal_135 (by decide) ?_
                  refine mx_i (bI (g && (mi || decide (¬ v1 = -9223372036854775808)))) (by rw [bI_ne hc7, bI_eq hc8, decide_eq_false (fun h => h ((lg_cmp_eq _ _).mp hc9))]; rfl) ?_
                  exact hj136
                · skip
                  refine lv_iconst (v := 1) hx hb dX4_isDecimal_131 (by decide) ?_
                  refine lv_goto (tgt := 136) hx hb dX4_isDecimal_132 (by decide) ?_
                  refine mx_i (bI (g && (mi || decide (¬ v1 = -9223372036854775808)))) (by rw [bI_ne hc7, bI_eq hc8, decide_eq_true (p := ¬ v1 = -9223372036854775808) (fun h => hc9 ((lg_cmp_eq _ _).mpr h))]; rfl) ?_
                  exact hj136
          refine lv_istore (lv' := [(6, .int (bI (g && (mi || decide (¬ v1 = -9223372036854775808))))), (7, .int (nI (off + i))), (4, .long v1), (0, .ref (ad 52)), (2, .int y2), (3, .int (bI mi))]) hx hb dX4_isDecimal_136 hl (by decide) rfl (fun ls hl => ?_)
          refine lv_aload_n hx hb dX4_isDecimal_138 rfl (lv_at hl 3 rfl) ?_
          suffices hj151 : W pg9 l ev9 (headSpec wsX4_isDecimal ({ frames := 0, cells := 0, slots := 0, locals := 0 })).room s m ([.ref (ad 52), .int y1, .int y2, .int (bI mi)] : List Value).toArray below meth cd H locs 0 0 (MQ below (va_Qi (fun r c' => ((∃ vv, pDec (t.drop i0) mi = some vv ∧ r = 1 ∧ c' 52 = rO ad x0 x1 x2 x3 x4 x5 x6 x7 x8 x9 x10 x11 x12 vv) ∨ (pDec (t.drop i0) mi = none ∧ r = 0 ∧ ∃ vv, c' 52 = rO ad x0 x1 x2 x3 x4 x5 x6 x7 x8 x9 x10 x11 x12 vv)) ∧ ∀ j, j ≠ 52 → c' j = c j) (mW D n ad) (mA n ad s.heap.size)) ([.ref (ad 52), .int y1, .int y2, .int (bI mi)] : List Value).toArray s 0 0 (mA n ad s.heap.size)) (F0 m 151 ls [.long (if mi = true then v1 else -v1), .ref (ad 52)]) by
            refine lv_iload_n hx hb dX4_isDecimal_139 rfl (lv_at hl 5 rfl) ?_
            refine lv_if_eq (tgt := 148) hx hb dX4_isDecimal_140 (by decide) (fun hc7 => ?_) (fun hc7 => ?_)
            · skip
              refine lv_lload hx hb dX4_isDecimal_148 (lv_at hl 2 rfl) ?_
              refine lv_lneg hx hb dX4_isDecimal_150 ?_
              refine mx_l (if mi = true then v1 else -v1) (by rw [if_neg (by rw [bI_eq hc7]; decide)]) ?_
              exact hj151
            · skip
              refine lv_lload hx hb dX4_isDecimal_143 (lv_at hl 2 rfl) ?_
              refine lv_goto (tgt := 151) hx hb dX4_isDecimal_145 (by decide) ?_
              refine mx_l (if mi = true then v1 else -v1) (by rw [if_pos (bI_ne hc7)]) ?_
              exact hj151
          refine mx_put (ci := 4) (v := .long (if mi = true then v1 else -v1)) (ty := .long) (C := RX4) (T := TX4) (N := 20) hx hb hts inX4 tyX4 tyX4_ok nmX4 hown hK hP hD hS (by omega : 52 < n) hO1 rfl 19 (by decide) (hts _ wm_287) (fun _ h9 => h9) rfl (by decide +kernel) rfl rfl (Nat.le_of_ble_eq_true rfl) dX4_isDecimal_151 (fun H locs hP hS => ?_)
          obtain ⟨c2, ec2⟩ : ∃ z : Nat → va_E, z = va_up c1 52 (.inr (4, [.ref (ad 53), .ref (ad 54), .ref (ad 55), .ref (ad 56), .int x0, .int x1, .int x2, .int x3, .int x4, .ref (ad 57), .int x5, .int x6, .int x7, .int x8, .int x9, .int x10, .int x11, .ref (ad 58), .int x12, .long (if mi = true then v1 else -v1)])) := ⟨_, rfl⟩
          have hP : va_P D vwCl (mw n ad c2) H := by rw [ec2]; exact hP
          have hsc2 : ∀ j, j ≠ 52 → c2 j = c1 j := fun j h => by rw [ec2]; exact va_up_ne _ _ h
          have hcc2 : c2 52 = .inr (4, [.ref (ad 53), .ref (ad 54), .ref (ad 55), .ref (ad 56), .int x0, .int x1, .int x2, .int x3, .int x4, .ref (ad 57), .int x5, .int x6, .int x7, .int x8, .int x9, .int x10, .int x11, .ref (ad 58), .int x12, .long (if mi = true then v1 else -v1)]) := by rw [ec2]; exact va_up_self _ _ _
          refine lv_iload hx hb dX4_isDecimal_154 (lv_at hl 0 rfl) ?_
          have hfin : ((∃ vv, pDec (t.drop i0) mi = some vv ∧ bI (g && (mi || decide (¬ v1 = -9223372036854775808))) = 1 ∧ c2 52 = rO ad x0 x1 x2 x3 x4 x5 x6 x7 x8 x9 x10 x11 x12 vv) ∨ (pDec (t.drop i0) mi = none ∧ bI (g && (mi || decide (¬ v1 = -9223372036854775808))) = 0 ∧ ∃ vv, c2 52 = rO ad x0 x1 x2 x3 x4 x5 x6 x7 x8 x9 x10 x11 x12 vv)) ∧ ∀ j, j ≠ 52 → c2 j = c j := by
            refine ⟨?_, fun j h => (hsc2 j h).trans (hs1 j h)⟩
            cases g
            · exact Or.inr ⟨hgf rfl, rfl, _, hcc2⟩
            · obtain ⟨hl1, hrd⟩ := hgt rfl
              have hge : t.length ≤ i := hex2 rfl
              rw [dr_nil hge] at hrd
              rw [pDec_s hl1 (hrd.trans rfl)]
              cases mi
              · by_cases hlow : v1 = -9223372036854775808
                · refine Or.inr ⟨by rw [if_neg (by decide), if_pos hlow], by rw [decide_eq_false (fun h => h hlow)]; rfl, _, hcc2⟩
                · refine Or.inl ⟨-v1, by rw [if_neg (by decide), if_neg hlow], by rw [decide_eq_true hlow]; rfl, hcc2⟩
              · exact Or.inl ⟨v1, if_pos rfl, rfl, hcc2⟩
          generalize (g && (mi || decide (¬ v1 = -9223372036854775808))) = gg at hfin ⊢
          cases gg
          · skip
            exact mx_zret hx hb hr hlocks rfl hP hS (hfin) dX4_isDecimal_156
          · skip
            exact mx_zret hx hb hr hlocks rfl hP hS (hfin) dX4_isDecimal_156
        · skip
          have hgT : g = true := bI_ne hc4
          obtain ⟨hl1, hrd⟩ := hgt hgT
          have hb8 : t.getD i 0 < 256 := hby _ (gD_mem hlt)
          refine lv_aload_n hx hb dX4_isDecimal_29 rfl (lv_at hl 3 rfl) ?_
          refine mx_get (ci := 4) (v := .ref (ad 55)) (C := RX4) (T := TX4) (N := 20) hx hb hts inX4 hown hK hP (by omega : 52 < n) hO1 rfl 2 (by decide) (hts _ wm_270) (fun _ h9 => h9) rfl dX4_isDecimal_30 ?_
          refine lv_iload hx hb dX4_isDecimal_33 (lv_at hl 0 rfl) ?_
          refine mx_bald hx hb hK hP (by omega : 55 < n) 2 h55 rfl (vp_in_nI (by omega) (by omega)) dX4_isDecimal_35 ?_
          refine mx_i (sB (t.getD i 0)) (by rw [nI_clamp (by omega)]; exact hf i hlt) ?_
          refine lv_bipush (v := 48) hx hb dX4_isDecimal_36 (by decide) ?_
          refine lv_isub hx hb dX4_isDecimal_38 ?_
          obtain ⟨d, hd⟩ : ∃ d : Int32, d = sB (t.getD i 0) - 48 := ⟨_, rfl⟩
          refine mx_i d hd.symm ?_
          refine lv_istore (lv' := [(8, .int d), (7, .int (nI (off + i))), (6, .int (bI g)), (4, .long v1), (0, .ref (ad 52)), (2, .int y2), (3, .int (bI mi))]) hx hb dX4_isDecimal_39 hl (by decide) rfl (fun ls hl => ?_)
          suffices hj84 : W pg9 l ev9 (headSpec wsX4_isDecimal ({ frames := 0, cells := 0, slots := 0, locals := 0 })).room s m ([.ref (ad 52), .int y1, .int y2, .int (bI mi)] : List Value).toArray below meth cd H locs 0 0 (MQ below (va_Qi (fun r c' => ((∃ vv, pDec (t.drop i0) mi = some vv ∧ r = 1 ∧ c' 52 = rO ad x0 x1 x2 x3 x4 x5 x6 x7 x8 x9 x10 x11 x12 vv) ∨ (pDec (t.drop i0) mi = none ∧ r = 0 ∧ ∃ vv, c' 52 = rO ad x0 x1 x2 x3 x4 x5 x6 x7 x8 x9 x10 x11 x12 vv)) ∧ ∀ j, j ≠ 52 → c' j = c j) (mW D n ad) (mA n ad s.heap.size)) ([.ref (ad 52), .int y1, .int y2, .int (bI mi)] : List Value).toArray s 0 0 (mA n ad s.heap.size)) (F0 m 84 ls [.int (bI (dcG v1 d))]) by
            refine lv_iload hx hb dX4_isDecimal_41 (lv_at hl 0 rfl) ?_
            refine lv_if_lt (tgt := 83) hx hb dX4_isDecimal_43 (by decide) (fun hc5 => ?_) (fun hc5 => ?_)
            · skip
              refine lv_iconst (v := 0) hx hb dX4_isDecimal_83 (by decide) ?_
              refine mx_i (bI (dcG v1 d)) (by rw [show dcG v1 d = false from decide_eq_false (fun h => absurd h.1 (Int32.not_le.mpr hc5))]; rfl) ?_
              exact hj84
            · skip
              refine lv_iload hx hb dX4_isDecimal_46 (lv_at hl 0 rfl) ?_
              refine lv_bipush (v := 9) hx hb dX4_isDecimal_48 (by decide) ?_
              refine lv_icmp_gt (tgt := 83) hx hb dX4_isDecimal_50 (by decide) (fun hc6 => ?_) (fun hc6 => ?_)
              · skip
                refine lv_iconst (v := 0) hx hb dX4_isDecimal_83 (by decide) ?_
                refine mx_i (bI (dcG v1 d)) (by rw [show dcG v1 d = false from decide_eq_false (fun h => absurd h.2.1 (Int32.not_le.mpr hc6))]; rfl) ?_
                exact hj84
              · skip
                refine lv_lload hx hb dX4_isDecimal_53 (lv_at hl 3 rfl) ?_
                refine lv_ldc2 (v := (-922337203685477580)) hx hb hown (hts _ wm_415) dX4_isDecimal_55 ?_
                refine W.lcmp hx hb dX4_isDecimal_58 ?_
                refine lv_if_lt (tgt := 83) hx hb dX4_isDecimal_59 (by decide) (fun hc7 => ?_) (fun hc7 => ?_)
                · skip
                  refine lv_iconst (v := 0) hx hb dX4_isDecimal_83 (by decide) ?_
                  refine mx_i (bI (dcG v1 d)) (by rw [show dcG v1 d = false from decide_eq_false (fun h => absurd h.2.2.1 (Int64.not_le.mpr ((lg_cmp_lt _ _).mp hc7)))]; rfl) ?_
                  exact hj84
                · skip
                  refine lv_ldc2 (v := 10) hx hb hown (hts _ wm_362) dX4_isDecimal_62 ?_
                  refine lv_lload hx hb dX4_isDecimal_65 (lv_at hl 3 rfl) ?_
                  refine lv_lmul hx hb dX4_isDecimal_67 ?_
                  refine lv_ldc2 (v := (-9223372036854775808)) hx hb hown (hts _ wm_416) dX4_isDecimal_68 ?_
                  refine lv_iload hx hb dX4_isDecimal_71 (lv_at hl 0 rfl) ?_
                  refine lv_i2l (v := d.toInt64) hx hb dX4_isDecimal_73 rfl ?_
                  refine lv_ladd hx hb dX4_isDecimal_74 ?_
                  refine W.lcmp hx hb dX4_isDecimal_75 ?_
                  refine lv_if_lt (tgt := 83) hx hb dX4_isDecimal_76 (by decide) (fun hc8 => ?_) (fun hc8 => ?_)
                  · skip
                    refine lv_iconst (v := 0) hx hb dX4_isDecimal_83 (by decide) ?_
                    refine mx_i (bI (dcG v1 d)) (by rw [show dcG v1 d = false from decide_eq_false (fun h => absurd h.2.2.2 (Int64.not_le.mpr ((lg_cmp_lt _ _).mp hc8)))]; rfl) ?_
                    exact hj84
                  · skip
                    refine lv_iconst (v := 1) hx hb dX4_isDecimal_79 (by decide) ?_
                    refine lv_goto (tgt := 84) hx hb dX4_isDecimal_80 (by decide) ?_
                    refine mx_i (bI (dcG v1 d)) (by rw [show dcG v1 d = true from decide_eq_true ⟨Int32.not_lt.mp hc5, Int32.not_lt.mp hc6, Int64.not_lt.mp (fun h => hc7 ((lg_cmp_lt _ _).mpr h)), Int64.not_lt.mp (fun h => hc8 ((lg_cmp_lt _ _).mpr h))⟩]; rfl) ?_
                    exact hj84
          refine lv_istore (lv' := [(6, .int (bI (dcG v1 d))), (8, .int d), (7, .int (nI (off + i))), (4, .long v1), (0, .ref (ad 52)), (2, .int y2), (3, .int (bI mi))]) hx hb dX4_isDecimal_84 hl (by decide) rfl (fun ls hl => ?_)
          suffices hj105 : W pg9 l ev9 (headSpec wsX4_isDecimal ({ frames := 0, cells := 0, slots := 0, locals := 0 })).room s m ([.ref (ad 52), .int y1, .int y2, .int (bI mi)] : List Value).toArray below meth cd H locs 0 0 (MQ below (va_Qi (fun r c' => ((∃ vv, pDec (t.drop i0) mi = some vv ∧ r = 1 ∧ c' 52 = rO ad x0 x1 x2 x3 x4 x5 x6 x7 x8 x9 x10 x11 x12 vv) ∨ (pDec (t.drop i0) mi = none ∧ r = 0 ∧ ∃ vv, c' 52 = rO ad x0 x1 x2 x3 x4 x5 x6 x7 x8 x9 x10 x11 x12 vv)) ∧ ∀ j, j ≠ 52 → c' j = c j) (mW D n ad) (mA n ad s.heap.size)) ([.ref (ad 52), .int y1, .int y2, .int (bI mi)] : List Value).toArray s 0 0 (mA n ad s.heap.size)) (F0 m 105 ls [.long (if dcG v1 d = true then 10 * v1 - d.toInt64 else 0)]) by
            refine lv_iload hx hb dX4_isDecimal_86 (lv_at hl 0 rfl) ?_
            refine lv_if_eq (tgt := 104) hx hb dX4_isDecimal_88 (by decide) (fun hc5 => ?_) (fun hc5 => ?_)
            · skip
              refine lv_lconst (v := 0) hx hb dX4_isDecimal_104 (by decide) ?_
              refine mx_l (if dcG v1 d = true then 10 * v1 - d.toInt64 else 0) (by rw [if_neg (by rw [bI_eq hc5]; decide)]) ?_
              exact hj105
            · skip
              refine lv_ldc2 (v := 10) hx hb hown (hts _ wm_362) dX4_isDecimal_91 ?_
              refine lv_lload hx hb dX4_isDecimal_94 (lv_at hl 3 rfl) ?_
              refine lv_lmul hx hb dX4_isDecimal_96 ?_
              refine lv_iload hx hb dX4_isDecimal_97 (lv_at hl 1 rfl) ?_
              refine lv_i2l (v := d.toInt64) hx hb dX4_isDecimal_99 rfl ?_
              refine lv_lsub hx hb dX4_isDecimal_100 ?_
              refine lv_goto (tgt := 105) hx hb dX4_isDecimal_101 (by decide) ?_
              refine mx_l (if dcG v1 d = true then 10 * v1 - d.toInt64 else 0) (by rw [if_pos (bI_ne hc5)]) ?_
              exact hj105
          refine lv_lstore (lv' := [(4, .long (if dcG v1 d = true then 10 * v1 - d.toInt64 else 0)), (6, .int (bI (dcG v1 d))), (8, .int d), (7, .int (nI (off + i))), (0, .ref (ad 52)), (2, .int y2), (3, .int (bI mi))]) hx hb dX4_isDecimal_105 hl (by decide) rfl (fun ls hl => ?_)
          have hst : gRd (t.drop i) v1 = if dcG v1 d = true then gRd (t.drop (i + 1)) (10 * v1 - d.toInt64) else none := by
            rw [dr_cons hlt]
            exact dc_step hb8 hd
          have hrd2 : dcG v1 d = true → gRd (t.drop i0) 0 = gRd (t.drop (i + 1)) (if dcG v1 d = true then 10 * v1 - d.toInt64 else 0) := fun h => by rw [hrd, hst, if_pos h, if_pos h]
          have hgf2 : dcG v1 d = false → pDec (t.drop i0) mi = none := fun h => pDec_n hl1 (by rw [hrd, hst, if_neg (by rw [h]; decide)])
          refine lv_iinc (v := nI (off + (i + 1))) (lv' := [(7, .int (nI (off + (i + 1)))), (4, .long (if dcG v1 d = true then 10 * v1 - d.toInt64 else 0)), (6, .int (bI (dcG v1 d))), (8, .int d), (0, .ref (ad 52)), (2, .int y2), (3, .int (bI mi))]) hx hb dX4_isDecimal_107 hl (k := 3) rfl (nI_1 (off + i)) (by decide) rfl (fun ls hl => ?_)
          refine lv_goto (tgt := 18) hx hb dX4_isDecimal_110 (by decide) ?_
          exact ih (i + 1) (dcG v1 d) _ v0 c1 H locs ls (by omega) (by omega) (fun h => ⟨hl1, hrd2 h⟩) hgf2 hO1 hs1 hP hS (lv_sub hl [0, 2, 1, 4, 5, 6] rfl)
  refine lv_istore (lv' := [(6, .int (bI (decide (i0 < t.length)))), (4, .long 0), (0, .ref (ad 52)), (1, .int y1), (2, .int y2), (3, .int (bI mi))]) hx hb dX4_isDecimal_13 hl (by decide) rfl (fun ls hl => ?_)
  refine lv_iload_n hx hb dX4_isDecimal_15 rfl (lv_at hl 3 rfl) ?_
  refine lv_istore (lv' := [(7, .int y1), (6, .int (bI (decide (i0 < t.length)))), (4, .long 0), (0, .ref (ad 52)), (1, .int y1), (2, .int y2), (3, .int (bI mi))]) hx hb dX4_isDecimal_16 hl (by decide) rfl (fun ls hl => ?_)
  exact loop (t.length + 1 - i0) i0 (decide (i0 < t.length)) 0 v c _ _ ls hi0 (by omega) (fun h => ⟨of_decide_eq_true h, rfl⟩) (fun h => by rw [dr_nil (by have := of_decide_eq_false h; omega)]; rfl) hO (fun j h => rfl) hP hS (by have h9 := (lv_sub hl [0, 1, 2, 3, 5, 6] rfl); rw [← hy1]; exact h9)
set_option maxHeartbeats 4000000 in
set_option maxRecDepth 100000 in
/-- isInteger(a) -/
theorem c_isInt (l : Launch) (D : va_G) (ca : Nat → ClassId) (n : Nat) (ad : Nat → Nat) (c : Nat → va_E) {x0 x1 x2 x3 x4 x5 x6 x7 x8 x9 x10 x11 x12 : Int32} {v : Int64} (hn : 59 ≤ n) (hO : c 52 = rO ad x0 x1 x2 x3 x4 x5 x6 x7 x8 x9 x10 x11 x12 v) {ar : Nat → List Nat} {ac : Nat} (hW : tWd ca c ar ac) (a : Nat) (ha : a < ac) (hac : ac ≤ 20) : mInt l yX4_isInteger wsX4_isInteger ({ frames := 2, cells := 0, slots := 0, locals := 48 }) [.ref (ad 52), .int (nI a)] D (tTY ca) n ad c (fun r c' => ((∃ vv, pNum (ar a) = some vv ∧ r = 1 ∧ c' 52 = rO ad x0 x1 x2 x3 x4 x5 x6 x7 x8 x9 x10 x11 x12 vv) ∨ (pNum (ar a) = none ∧ r = 0 ∧ ∃ vv, c' 52 = rO ad x0 x1 x2 x3 x4 x5 x6 x7 x8 x9 x10 x11 x12 vv)) ∧ ∀ j, j ≠ 52 → c' j = c j) := by
  intro sz
  refine Met.ofW (cc := cX4_isInteger) (maxL := 7) (ret := (some .boolean)) (by decide) rfl ?_
  intro pg9 ev9 s m args below meth cd s₁ B hml hv
  obtain ⟨rfl, hsz, hP, hK, hD0, hN⟩ := hv
  have hx := B.exec
  have hb := B.bytes
  have hr := B.returns
  have hts := fun (w : Cond) (h : w ∈ WSa) => atoms_spec (ws := wsX4_isInteger) B.pre w (List.mem_cons_of_mem _ h)
  have hown : s.vm.findClass RX4 = some m.cls := findClass_of_methodNamed B.named
  have hlocks := B.notSynchronized
  subst hsz
  have hD : ∀ c, va_D (fun _ => True) (mw n ad c) := fun c' => mw_D hD0 c'
  have hS : va_S (mA n ad s.heap.size) s.heap s.heap [] := va_S.rf
  have hl := lv_entry ([.ref (ad 52), .int (nI a)]) (n := 7) (Nat.le_of_ble_eq_true rfl)
  rw [lg_entry_eq]
  generalize (lg_sl ([.ref (ad 52), .int (nI a)]) ++ List.replicate (7 - (lg_sl ([.ref (ad 52), .int (nI a)])).length) Slot.unset).toArray = ls at hl ⊢
  have hl : lv_has ls 7 [(0, .ref (ad 52)), (1, .int (nI a))] := hl
  obtain ⟨f, g57, h55, h57, hW1⟩ := id hW
  obtain ⟨hsz, hl40, hb8, hff⟩ := hW1 a ha
  generalize htt : ar a = t at hsz hl40 hb8 hff ⊢
  have hB : tB ca c 55 800 (40 * a) t := ⟨by omega, by omega, hb8, f, h55, hff⟩
  refine lv_bipush (v := 40) hx hb dX4_isInteger_0 (by decide) ?_
  refine lv_iload_n hx hb dX4_isInteger_2 rfl (lv_at hl 1 rfl) ?_
  refine lv_imul hx hb dX4_isInteger_3 ?_
  refine mx_i (nI (40 * a)) (pk_mul 40 a) ?_
  refine lv_istore_n (lv' := [(2, .int (nI (40 * a))), (0, .ref (ad 52)), (1, .int (nI a))]) hx hb dX4_isInteger_4 rfl hl (by decide) rfl (fun ls hl => ?_)
  refine lv_iload_n hx hb dX4_isInteger_5 rfl (lv_at hl 0 rfl) ?_
  refine lv_aload_n hx hb dX4_isInteger_6 rfl (lv_at hl 1 rfl) ?_
  refine mx_get (ci := 4) (v := .ref (ad 57)) (C := RX4) (T := TX4) (N := 20) hx hb hts inX4 hown hK hP (by omega : 52 < n) hO rfl 9 (by decide) (hts _ wm_277) (fun _ h9 => h9) rfl dX4_isInteger_7 ?_
  refine lv_iload_n hx hb dX4_isInteger_10 rfl (lv_at hl 2 rfl) ?_
  refine mx_iald hx hb hK hP (by omega : 57 < n) 0 h57 rfl (vp_in_nI (by omega) (by omega)) dX4_isInteger_11 ?_
  refine mx_i (nI t.length) (by rw [nI_clamp (by omega)]; exact hsz) ?_
  refine lv_iadd hx hb dX4_isInteger_12 ?_
  refine mx_i (nI (40 * a + t.length)) (nI_add _ _) ?_
  refine lv_istore_n (lv' := [(3, .int (nI (40 * a + t.length))), (2, .int (nI (40 * a))), (0, .ref (ad 52)), (1, .int (nI a))]) hx hb dX4_isInteger_13 rfl hl (by decide) rfl (fun ls hl => ?_)
  suffices hj35 : W pg9 l ev9 (headSpec wsX4_isInteger ({ frames := 2, cells := 0, slots := 0, locals := 48 })).room s m ([.ref (ad 52), .int (nI a)] : List Value).toArray below meth cd s.heap [] 0 0 (MQ below (va_Qi (fun r c' => ((∃ vv, pNum t = some vv ∧ r = 1 ∧ c' 52 = rO ad x0 x1 x2 x3 x4 x5 x6 x7 x8 x9 x10 x11 x12 vv) ∨ (pNum t = none ∧ r = 0 ∧ ∃ vv, c' 52 = rO ad x0 x1 x2 x3 x4 x5 x6 x7 x8 x9 x10 x11 x12 vv)) ∧ ∀ j, j ≠ 52 → c' j = c j) (mW D n ad) (mA n ad s.heap.size)) ([.ref (ad 52), .int (nI a)] : List Value).toArray s 0 0 (mA n ad s.heap.size)) (F0 m 35 ls [.int (bI (decide (tAt t 0 = 45)))]) by
    refine lv_iload_n hx hb dX4_isInteger_14 rfl (lv_at hl 1 rfl) ?_
    refine lv_iload_n hx hb dX4_isInteger_15 rfl (lv_at hl 0 rfl) ?_
    refine lv_icmp_ge (tgt := 34) hx hb dX4_isInteger_16 (by decide) (fun hc1 => ?_) (fun hc1 => ?_)
    · skip
      refine lv_iconst (v := 0) hx hb dX4_isInteger_34 (by decide) ?_
      refine mx_i (bI (decide (tAt t 0 = 45))) (by rw [show tAt t 0 = -1 from if_neg (by have := (nI_leI (by omega) (by omega)).mp hc1; omega)]; rfl) ?_
      exact hj35
    · skip
      have hl0 : 0 < t.length := by have := (not_congr (nI_leI (a := 40 * a + t.length) (b := 40 * a) (by omega) (by omega))).mp hc1; omega
      refine lv_aload_n hx hb dX4_isInteger_19 rfl (lv_at hl 2 rfl) ?_
      refine mx_get (ci := 4) (v := .ref (ad 55)) (C := RX4) (T := TX4) (N := 20) hx hb hts inX4 hown hK hP (by omega : 52 < n) hO rfl 2 (by decide) (hts _ wm_270) (fun _ h9 => h9) rfl dX4_isInteger_20 ?_
      refine lv_iload_n hx hb dX4_isInteger_23 rfl (lv_at hl 1 rfl) ?_
      refine mx_bald hx hb hK hP (by omega : 55 < n) 2 h55 rfl (vp_in_nI (by omega) (by omega)) dX4_isInteger_24 ?_
      refine mx_i (sB (t.getD 0 0)) (by rw [nI_clamp (by omega)]; exact hff 0 (by omega)) ?_
      refine lv_bipush (v := 45) hx hb dX4_isInteger_25 (by decide) ?_
      refine lv_icmp_ne (tgt := 34) hx hb dX4_isInteger_27 (by decide) (fun hc2 => ?_) (fun hc2 => ?_)
      · skip
        refine lv_iconst (v := 0) hx hb dX4_isInteger_34 (by decide) ?_
        refine mx_i (bI (decide (tAt t 0 = 45))) (by rw [decide_eq_false (p := tAt t 0 = 45) (fun h => hc2 ((tAt_sB hb8 hl0 (k := 45) (by decide)).mp h))]; rfl) ?_
        exact hj35
      · skip
        refine lv_iconst (v := 1) hx hb dX4_isInteger_30 (by decide) ?_
        refine lv_goto (tgt := 35) hx hb dX4_isInteger_31 (by decide) ?_
        refine mx_i (bI (decide (tAt t 0 = 45))) (by rw [decide_eq_true (p := tAt t 0 = 45) ((tAt_sB hb8 hl0 (k := 45) (by decide)).mpr hc2)]; rfl) ?_
        exact hj35
  refine lv_istore (lv' := [(4, .int (bI (decide (tAt t 0 = 45)))), (3, .int (nI (40 * a + t.length))), (2, .int (nI (40 * a))), (0, .ref (ad 52)), (1, .int (nI a))]) hx hb dX4_isInteger_35 hl (by decide) rfl (fun ls hl => ?_)
  suffices hj65 : W pg9 l ev9 (headSpec wsX4_isInteger ({ frames := 2, cells := 0, slots := 0, locals := 48 })).room s m ([.ref (ad 52), .int (nI a)] : List Value).toArray below meth cd s.heap [] 0 0 (MQ below (va_Qi (fun r c' => ((∃ vv, pNum t = some vv ∧ r = 1 ∧ c' 52 = rO ad x0 x1 x2 x3 x4 x5 x6 x7 x8 x9 x10 x11 x12 vv) ∨ (pNum t = none ∧ r = 0 ∧ ∃ vv, c' 52 = rO ad x0 x1 x2 x3 x4 x5 x6 x7 x8 x9 x10 x11 x12 vv)) ∧ ∀ j, j ≠ 52 → c' j = c j) (mW D n ad) (mA n ad s.heap.size)) ([.ref (ad 52), .int (nI a)] : List Value).toArray s 0 0 (mA n ad s.heap.size)) (F0 m 65 ls [.int (nI (40 * a + (if tAt t 0 = 45 ∨ tAt t 0 = 43 then 1 else 0)))]) by
    refine lv_iload_n hx hb dX4_isInteger_37 rfl (lv_at hl 2 rfl) ?_
    refine lv_iload_n hx hb dX4_isInteger_38 rfl (lv_at hl 1 rfl) ?_
    refine lv_icmp_ge (tgt := 64) hx hb dX4_isInteger_39 (by decide) (fun hc1 => ?_) (fun hc1 => ?_)
    · skip
      refine lv_iload_n hx hb dX4_isInteger_64 rfl (lv_at hl 2 rfl) ?_
      refine mx_i (nI (40 * a + (if tAt t 0 = 45 ∨ tAt t 0 = 43 then 1 else 0))) (by rw [if_neg (by rw [show tAt t 0 = -1 from if_neg (by have := (nI_leI (by omega) (by omega)).mp hc1; omega)]; decide)]; rfl) ?_
      exact hj65
    · skip
      have hl0 : 0 < t.length := by have := (not_congr (nI_leI (a := 40 * a + t.length) (b := 40 * a) (by omega) (by omega))).mp hc1; omega
      refine lv_iload hx hb dX4_isInteger_42 (lv_at hl 0 rfl) ?_
      refine lv_if_ne (tgt := 58) hx hb dX4_isInteger_44 (by decide) (fun hc2 => ?_) (fun hc2 => ?_)
      · skip
        refine lv_iload_n hx hb dX4_isInteger_58 rfl (lv_at hl 2 rfl) ?_
        refine lv_iconst (v := 1) hx hb dX4_isInteger_59 (by decide) ?_
        refine lv_iadd hx hb dX4_isInteger_60 ?_
        refine lv_goto (tgt := 65) hx hb dX4_isInteger_61 (by decide) ?_
        refine mx_i (nI (40 * a + (if tAt t 0 = 45 ∨ tAt t 0 = 43 then 1 else 0))) (by rw [if_pos (Or.inl (of_decide_eq_true (bI_ne hc2)))]; exact nI_1 _) ?_
        exact hj65
      · skip
        refine lv_aload_n hx hb dX4_isInteger_47 rfl (lv_at hl 3 rfl) ?_
        refine mx_get (ci := 4) (v := .ref (ad 55)) (C := RX4) (T := TX4) (N := 20) hx hb hts inX4 hown hK hP (by omega : 52 < n) hO rfl 2 (by decide) (hts _ wm_270) (fun _ h9 => h9) rfl dX4_isInteger_48 ?_
        refine lv_iload_n hx hb dX4_isInteger_51 rfl (lv_at hl 2 rfl) ?_
        refine mx_bald hx hb hK hP (by omega : 55 < n) 2 h55 rfl (vp_in_nI (by omega) (by omega)) dX4_isInteger_52 ?_
        refine mx_i (sB (t.getD 0 0)) (by rw [nI_clamp (by omega)]; exact hff 0 (by omega)) ?_
        refine lv_bipush (v := 43) hx hb dX4_isInteger_53 (by decide) ?_
        refine lv_icmp_ne (tgt := 64) hx hb dX4_isInteger_55 (by decide) (fun hc3 => ?_) (fun hc3 => ?_)
        · skip
          refine lv_iload_n hx hb dX4_isInteger_64 rfl (lv_at hl 2 rfl) ?_
          refine mx_i (nI (40 * a + (if tAt t 0 = 45 ∨ tAt t 0 = 43 then 1 else 0))) (by rw [if_neg (fun h => h.elim (of_decide_eq_false (bI_eq hc2)) (fun q => hc3 ((tAt_sB hb8 hl0 (k := 43) (by decide)).mp q)))]; rfl) ?_
          exact hj65
        · skip
          refine lv_iload_n hx hb dX4_isInteger_58 rfl (lv_at hl 2 rfl) ?_
          refine lv_iconst (v := 1) hx hb dX4_isInteger_59 (by decide) ?_
          refine lv_iadd hx hb dX4_isInteger_60 ?_
          refine lv_goto (tgt := 65) hx hb dX4_isInteger_61 (by decide) ?_
          refine mx_i (nI (40 * a + (if tAt t 0 = 45 ∨ tAt t 0 = 43 then 1 else 0))) (by rw [if_pos (c := tAt t 0 = 45 ∨ tAt t 0 = 43) (Or.inr ((tAt_sB hb8 hl0 (k := 43) (by decide)).mpr hc3))]; exact nI_1 _) ?_
          exact hj65
  obtain ⟨fr, hfr⟩ : ∃ fr, (if tAt t 0 = 45 ∨ tAt t 0 = 43 then 1 else 0) = fr := ⟨_, rfl⟩
  have hfl : fr ≤ t.length ∧ fr ≤ 1 := by rw [← hfr]; exact fr_le
  refine mx_i (nI (40 * a + fr)) (by rw [hfr]) ?_
  refine lv_istore (lv' := [(5, .int (nI (40 * a + fr))), (4, .int (bI (decide (tAt t 0 = 45)))), (3, .int (nI (40 * a + t.length))), (2, .int (nI (40 * a))), (0, .ref (ad 52)), (1, .int (nI a))]) hx hb dX4_isInteger_65 hl (by decide) rfl (fun ls hl => ?_)
  suffices hj106 : W pg9 l ev9 (headSpec wsX4_isInteger ({ frames := 2, cells := 0, slots := 0, locals := 48 })).room s m ([.ref (ad 52), .int (nI a)] : List Value).toArray below meth cd s.heap [] 0 0 (MQ below (va_Qi (fun r c' => ((∃ vv, pNum t = some vv ∧ r = 1 ∧ c' 52 = rO ad x0 x1 x2 x3 x4 x5 x6 x7 x8 x9 x10 x11 x12 vv) ∨ (pNum t = none ∧ r = 0 ∧ ∃ vv, c' 52 = rO ad x0 x1 x2 x3 x4 x5 x6 x7 x8 x9 x10 x11 x12 vv)) ∧ ∀ j, j ≠ 52 → c' j = c j) (mW D n ad) (mA n ad s.heap.size)) ([.ref (ad 52), .int (nI a)] : List Value).toArray s 0 0 (mA n ad s.heap.size)) (F0 m 106 ls [.int (bI (decide (tAt (t.drop fr) 0 = 48 ∧ tAt (t.drop fr) 1 = 120)))]) by
    refine lv_iload hx hb dX4_isInteger_67 (lv_at hl 0 rfl) ?_
    refine lv_iconst (v := 1) hx hb dX4_isInteger_69 (by decide) ?_
    refine lv_iadd hx hb dX4_isInteger_70 ?_
    refine mx_i (nI (40 * a + (fr + 1))) (nI_1 _) ?_
    refine lv_iload_n hx hb dX4_isInteger_71 rfl (lv_at hl 2 rfl) ?_
    refine lv_icmp_ge (tgt := 105) hx hb dX4_isInteger_72 (by decide) (fun hc1 => ?_) (fun hc1 => ?_)
    · skip
      refine lv_iconst (v := 0) hx hb dX4_isInteger_105 (by decide) ?_
      refine mx_i (bI (decide (tAt (t.drop fr) 0 = 48 ∧ tAt (t.drop fr) 1 = 120))) (by rw [decide_eq_false (fun h => absurd h.2 (by rw [tAt_drop, show tAt t (fr + 1) = -1 from if_neg (by have := (nI_leI (by omega) (by omega)).mp hc1; omega)]; decide))]; rfl) ?_
      exact hj106
    · skip
      have hl1 : fr + 1 < t.length := by have := (not_congr (nI_leI (a := 40 * a + t.length) (b := 40 * a + (fr + 1)) (by omega) (by omega))).mp hc1; omega
      refine lv_aload_n hx hb dX4_isInteger_75 rfl (lv_at hl 4 rfl) ?_
      refine mx_get (ci := 4) (v := .ref (ad 55)) (C := RX4) (T := TX4) (N := 20) hx hb hts inX4 hown hK hP (by omega : 52 < n) hO rfl 2 (by decide) (hts _ wm_270) (fun _ h9 => h9) rfl dX4_isInteger_76 ?_
      refine lv_iload hx hb dX4_isInteger_79 (lv_at hl 0 rfl) ?_
      refine mx_bald hx hb hK hP (by omega : 55 < n) 2 h55 rfl (vp_in_nI (by omega) (by omega)) dX4_isInteger_81 ?_
      refine mx_i (sB (t.getD fr 0)) (by rw [nI_clamp (by omega)]; exact hff fr (by omega)) ?_
      refine lv_bipush (v := 48) hx hb dX4_isInteger_82 (by decide) ?_
      refine lv_icmp_ne (tgt := 105) hx hb dX4_isInteger_84 (by decide) (fun hc2 => ?_) (fun hc2 => ?_)
      · skip
        refine lv_iconst (v := 0) hx hb dX4_isInteger_105 (by decide) ?_
        refine mx_i (bI (decide (tAt (t.drop fr) 0 = 48 ∧ tAt (t.drop fr) 1 = 120))) (by rw [decide_eq_false (fun h => hc2 ((tAt_sB hb8 (by omega : fr < t.length) (k := 48) (by decide)).mp (by have := h.1; rw [tAt_drop] at this; exact this)))]; rfl) ?_
        exact hj106
      · skip
        refine lv_aload_n hx hb dX4_isInteger_87 rfl (lv_at hl 4 rfl) ?_
        refine mx_get (ci := 4) (v := .ref (ad 55)) (C := RX4) (T := TX4) (N := 20) hx hb hts inX4 hown hK hP (by omega : 52 < n) hO rfl 2 (by decide) (hts _ wm_270) (fun _ h9 => h9) rfl dX4_isInteger_88 ?_
        refine lv_iload hx hb dX4_isInteger_91 (lv_at hl 0 rfl) ?_
        refine lv_iconst (v := 1) hx hb dX4_isInteger_93 (by decide) ?_
        refine lv_iadd hx hb dX4_isInteger_94 ?_
        refine mx_i (nI (40 * a + (fr + 1))) (nI_1 _) ?_
        refine mx_bald hx hb hK hP (by omega : 55 < n) 2 h55 rfl (vp_in_nI (by omega) (by omega)) dX4_isInteger_95 ?_
        refine mx_i (sB (t.getD (fr + 1) 0)) (by rw [nI_clamp (by omega)]; exact hff (fr + 1) (by omega)) ?_
        refine lv_bipush (v := 120) hx hb dX4_isInteger_96 (by decide) ?_
        refine lv_icmp_ne (tgt := 105) hx hb dX4_isInteger_98 (by decide) (fun hc3 => ?_) (fun hc3 => ?_)
        · skip
          refine lv_iconst (v := 0) hx hb dX4_isInteger_105 (by decide) ?_
          refine mx_i (bI (decide (tAt (t.drop fr) 0 = 48 ∧ tAt (t.drop fr) 1 = 120))) (by rw [decide_eq_false (fun h => hc3 ((tAt_sB hb8 hl1 (k := 120) (by decide)).mp (by have := h.2; rw [tAt_drop] at this; exact this)))]; rfl) ?_
          exact hj106
        · skip
          refine lv_iconst (v := 1) hx hb dX4_isInteger_101 (by decide) ?_
          refine lv_goto (tgt := 106) hx hb dX4_isInteger_102 (by decide) ?_
          refine mx_i (bI (decide (tAt (t.drop fr) 0 = 48 ∧ tAt (t.drop fr) 1 = 120))) (by rw [decide_eq_true ⟨by rw [tAt_drop]; exact (tAt_sB hb8 (by omega : fr < t.length) (k := 48) (by decide)).mpr hc2, by rw [tAt_drop]; exact (tAt_sB hb8 hl1 (k := 120) (by decide)).mpr hc3⟩]; rfl) ?_
          exact hj106
  refine lv_istore (lv' := [(6, .int (bI (decide (tAt (t.drop fr) 0 = 48 ∧ tAt (t.drop fr) 1 = 120)))), (5, .int (nI (40 * a + fr))), (4, .int (bI (decide (tAt t 0 = 45)))), (3, .int (nI (40 * a + t.length))), (2, .int (nI (40 * a))), (0, .ref (ad 52)), (1, .int (nI a))]) hx hb dX4_isInteger_106 hl (by decide) rfl (fun ls hl => ?_)
  refine lv_iload hx hb dX4_isInteger_108 (lv_at hl 0 rfl) ?_
  refine lv_if_eq (tgt := 127) hx hb dX4_isInteger_110 (by decide) (fun hc1 => ?_) (fun hc1 => ?_)
  · skip
    have hh := of_decide_eq_false (bI_eq hc1)
    refine lv_aload_n hx hb dX4_isInteger_127 rfl (lv_at hl 5 rfl) ?_
    refine lv_iload hx hb dX4_isInteger_128 (lv_at hl 1 rfl) ?_
    refine lv_iload_n hx hb dX4_isInteger_130 rfl (lv_at hl 3 rfl) ?_
    refine lv_iload hx hb dX4_isInteger_131 (lv_at hl 2 rfl) ?_
    refine mx_ci (va_runV (As := [.int (nI (40 * a + fr)), .int (nI (40 * a + t.length)), .int (bI (decide (tAt t 0 = 45)))]) (rest := []) ⟨hx, hb, hml, hown, hts⟩ (c_isDec l D ca n ad c hn hO hB (nI (40 * a + fr)) (nI (40 * a + t.length)) fr (decide (tAt t 0 = 45)) rfl rfl hfl.1 _) (cwV 3 hts (gV wm_411 wm_413 ws_23 wm_5 wm_414) rfl rfl rfl (by decide +kernel) ⟨Nat.le_of_ble_eq_true rfl, Nat.le_of_ble_eq_true rfl⟩) (mx_pv (C := RX4) (T := TX4) (N := 20) (ci := 4) hK hP hD hN (by omega : 52 < n) hO rfl) rfl rfl hl.1 rfl (lv_room (Nat.le_of_ble_eq_true rfl)) dX4_isInteger_133 ⟨Nat.zero_le _, Nat.zero_le _⟩) (Nat.le_refl _) hS (fun r c2 H locs hw hP hS => ?_)
    have hpn : pNum t = pDec (t.drop fr) (decide (tAt t 0 = 45)) := by unfold pNum; rw [hfr, if_neg hh]
    rw [← hpn] at hw
    obtain rfl | rfl : r = 1 ∨ r = 0 := by rcases hw.1 with ⟨vv, h1, h2, h3⟩ | ⟨h1, h2, h3⟩; exact Or.inl h2; exact Or.inr h2
    · skip
      exact mx_zret hx hb hr hlocks rfl hP hS (hw) dX4_isInteger_136
    · skip
      exact mx_zret hx hb hr hlocks rfl hP hS (hw) dX4_isInteger_136
  · skip
    have hh := of_decide_eq_true (bI_ne hc1)
    have hl1 : fr + 1 < t.length := by rcases Nat.lt_or_ge (fr + 1) t.length with h | h; exact h; have h9 := hh.2; rw [tAt_drop, show tAt t (fr + 1) = -1 from if_neg (by omega)] at h9; exact absurd h9 (by decide)
    refine lv_aload_n hx hb dX4_isInteger_113 rfl (lv_at hl 5 rfl) ?_
    refine lv_iload hx hb dX4_isInteger_114 (lv_at hl 1 rfl) ?_
    refine lv_iconst (v := 2) hx hb dX4_isInteger_116 (by decide) ?_
    refine lv_iadd hx hb dX4_isInteger_117 ?_
    refine mx_i (nI (40 * a + (fr + 2))) (nI_add _ 2) ?_
    refine lv_iload_n hx hb dX4_isInteger_118 rfl (lv_at hl 3 rfl) ?_
    refine lv_iload hx hb dX4_isInteger_119 (lv_at hl 2 rfl) ?_
    refine mx_ci (va_runV (As := [.int (nI (40 * a + (fr + 2))), .int (nI (40 * a + t.length)), .int (bI (decide (tAt t 0 = 45)))]) (rest := []) ⟨hx, hb, hml, hown, hts⟩ (c_isHex l D ca n ad c hn hO hB (nI (40 * a + (fr + 2))) (nI (40 * a + t.length)) (fr + 2) (decide (tAt t 0 = 45)) rfl rfl (by omega) _) (cwV 3 hts (gV wm_404 wm_406 ws_22 wm_5 wm_407) rfl rfl rfl (by decide +kernel) ⟨Nat.le_of_ble_eq_true rfl, Nat.le_of_ble_eq_true rfl⟩) (mx_pv (C := RX4) (T := TX4) (N := 20) (ci := 4) hK hP hD hN (by omega : 52 < n) hO rfl) rfl rfl hl.1 rfl (lv_room (Nat.le_of_ble_eq_true rfl)) dX4_isInteger_121 ⟨Nat.zero_le _, Nat.zero_le _⟩) (Nat.le_refl _) hS (fun r c2 H locs hw hP hS => ?_)
    have hpn : pNum t = pHex (t.drop (fr + 2)) (decide (tAt t 0 = 45)) := by unfold pNum; rw [hfr, if_pos hh]
    rw [← hpn] at hw
    refine lv_goto (tgt := 136) hx hb dX4_isInteger_124 (by decide) ?_
    obtain rfl | rfl : r = 1 ∨ r = 0 := by rcases hw.1 with ⟨vv, h1, h2, h3⟩ | ⟨h1, h2, h3⟩; exact Or.inl h2; exact Or.inr h2
    · skip
      exact mx_zret hx hb hr hlocks rfl hP hS (hw) dX4_isInteger_136
    · skip
      exact mx_zret hx hb hr hlocks rfl hP hS (hw) dX4_isInteger_136
end
section
set_option maxHeartbeats 4000000 in
set_option maxRecDepth 100000 in
/-- flag() -/
theorem c_flag (l : Launch) (D : va_G) (ca : Nat → ClassId) (n : Nat) (ad : Nat → Nat) (c : Nat → va_E) {x0 x1 x2 x3 x4 x5 x6 x7 x12 : Int32} {f : fl4} {v : Int64} (hn : 59 ≤ n) {t : List Nat} {i : Nat} (hO : c 52 = rO ad x0 x1 x2 x3 x4 x5 x6 x7 (bI f.1) (bI f.2.1) (bI f.2.2.1) (bI f.2.2.2) x12 v) (hB : tB ca c 54 400 0 t) (hx1 : x1 = nI t.length) (hx5 : x5 = nI i) (hi : i ≤ t.length) : mInt l yX4_flag wsX4_flag ({ frames := 0, cells := 0, slots := 0, locals := 0 }) [.ref (ad 52)] D (tTY ca) n ad c (fun r c' => ((i < t.length ∧ ∃ f', pFlag (t.getD i 0) f = some f' ∧ r = 1 ∧ c' 52 = rO ad x0 x1 x2 x3 x4 x5 x6 x7 (bI f'.1) (bI f'.2.1) (bI f'.2.2.1) (bI f'.2.2.2) x12 v) ∨ (¬ (i < t.length ∧ ∃ f', pFlag (t.getD i 0) f = some f') ∧ r = 0 ∧ c' 52 = rO ad x0 x1 x2 x3 x4 x5 x6 x7 (bI f.1) (bI f.2.1) (bI f.2.2.1) (bI f.2.2.2) x12 v)) ∧ ∀ j, j ≠ 52 → c' j = c j) := by
  intro sz
  refine Met.ofW (cc := cX4_flag) (maxL := 2) (ret := (some .boolean)) (by decide) rfl ?_
  intro pg9 ev9 s m args below meth cd s₁ B hml hv
  obtain ⟨rfl, hsz, hP, hK, hD0, hN⟩ := hv
  have hx := B.exec
  have hb := B.bytes
  have hr := B.returns
  have hts := fun (w : Cond) (h : w ∈ WSa) => atoms_spec (ws := wsX4_flag) B.pre w (List.mem_cons_of_mem _ h)
  have hown : s.vm.findClass RX4 = some m.cls := findClass_of_methodNamed B.named
  have hlocks := B.notSynchronized
  subst hsz
  have hD : ∀ c, va_D (fun _ => True) (mw n ad c) := fun c' => mw_D hD0 c'
  have hS : va_S (mA n ad s.heap.size) s.heap s.heap [] := va_S.rf
  have hl := lv_entry ([.ref (ad 52)]) (n := 2) (Nat.le_of_ble_eq_true rfl)
  rw [lg_entry_eq]
  generalize (lg_sl ([.ref (ad 52)]) ++ List.replicate (2 - (lg_sl ([.ref (ad 52)])).length) Slot.unset).toArray = ls at hl ⊢
  have hl : lv_has ls 2 [(0, .ref (ad 52))] := hl
  obtain ⟨hle, hcp, hby, g, h54, hg⟩ := id hB
  suffices hj24 : W pg9 l ev9 (headSpec wsX4_flag ({ frames := 0, cells := 0, slots := 0, locals := 0 })).room s m ([.ref (ad 52)] : List Value).toArray below meth cd s.heap [] 0 0 (MQ below (va_Qi (fun r c' => ((i < t.length ∧ ∃ f', pFlag (t.getD i 0) f = some f' ∧ r = 1 ∧ c' 52 = rO ad x0 x1 x2 x3 x4 x5 x6 x7 (bI f'.1) (bI f'.2.1) (bI f'.2.2.1) (bI f'.2.2.2) x12 v) ∨ (¬ (i < t.length ∧ ∃ f', pFlag (t.getD i 0) f = some f') ∧ r = 0 ∧ c' 52 = rO ad x0 x1 x2 x3 x4 x5 x6 x7 (bI f.1) (bI f.2.1) (bI f.2.2.1) (bI f.2.2.2) x12 v)) ∧ ∀ j, j ≠ 52 → c' j = c j) (mW D n ad) (mA n ad s.heap.size)) ([.ref (ad 52)] : List Value).toArray s 0 0 (mA n ad s.heap.size)) (F0 m 24 ls [.int (tAs t i)]) by
    refine lv_aload_n hx hb dX4_flag_0 rfl (lv_at hl 0 rfl) ?_
    refine mx_get (ci := 4) (v := .int x5) (C := RX4) (T := TX4) (N := 20) hx hb hts inX4 hown hK hP (by omega : 52 < n) hO rfl 10 (by decide) (hts _ wm_278) (fun _ h9 => h9) rfl dX4_flag_1 ?_
    refine lv_aload_n hx hb dX4_flag_4 rfl (lv_at hl 0 rfl) ?_
    refine mx_get (ci := 4) (v := .int x1) (C := RX4) (T := TX4) (N := 20) hx hb hts inX4 hown hK hP (by omega : 52 < n) hO rfl 5 (by decide) (hts _ wm_273) (fun _ h9 => h9) rfl dX4_flag_5 ?_
    refine lv_icmp_ge (tgt := 23) hx hb dX4_flag_8 (by decide) (fun hc1 => ?_) (fun hc1 => ?_)
    · skip
      refine lv_iconst (v := (-1)) hx hb dX4_flag_23 (by decide) ?_
      refine mx_i (tAs t i) (by have h9 : ¬ i < t.length := (by have := (nI_leI (a := t.length) (b := i) (by omega) (by omega)).mp (by rw [← hx1, ← hx5]; exact hc1); omega); rw [show tAs t i = -1 from if_neg h9]) ?_
      exact hj24
    · skip
      have hlt : i < t.length := by have := (not_congr (nI_leI (a := t.length) (b := i) (by omega) (by omega))).mp (by rw [← hx1, ← hx5]; exact hc1); omega
      refine lv_aload_n hx hb dX4_flag_11 rfl (lv_at hl 0 rfl) ?_
      refine mx_get (ci := 4) (v := .ref (ad 54)) (C := RX4) (T := TX4) (N := 20) hx hb hts inX4 hown hK hP (by omega : 52 < n) hO rfl 1 (by decide) (hts _ wm_269) (fun _ h9 => h9) rfl dX4_flag_12 ?_
      refine lv_aload_n hx hb dX4_flag_15 rfl (lv_at hl 0 rfl) ?_
      refine mx_get (ci := 4) (v := .int x5) (C := RX4) (T := TX4) (N := 20) hx hb hts inX4 hown hK hP (by omega : 52 < n) hO rfl 10 (by decide) (hts _ wm_278) (fun _ h9 => h9) rfl dX4_flag_16 ?_
      refine mx_bald hx hb hK hP (by omega : 54 < n) 2 h54 rfl (by rw [hx5]; exact vp_in_nI (by omega) (by omega)) dX4_flag_19 ?_
      refine mx_i (tAs t i) (by rw [hx5, nI_clamp (by omega), show tAs t i = sB (t.getD i 0) from if_pos hlt]; have h9 := hg i hlt; rw [Nat.zero_add] at h9; exact h9) ?_
      refine lv_goto (tgt := 24) hx hb dX4_flag_20 (by decide) ?_
      refine mx_i (tAs t i) (rfl) ?_
      exact hj24
  obtain ⟨y, hy⟩ : ∃ y : Int32, tAs t i = y := ⟨_, rfl⟩
  refine mx_i y hy ?_
  refine lv_istore_n (lv' := [(1, .int y), (0, .ref (ad 52))]) hx hb dX4_flag_24 rfl hl (by decide) rfl (fun ls hl => ?_)
  refine lv_aload_n hx hb dX4_flag_25 rfl (lv_at hl 1 rfl) ?_
  suffices hj44 : W pg9 l ev9 (headSpec wsX4_flag ({ frames := 0, cells := 0, slots := 0, locals := 0 })).room s m ([.ref (ad 52)] : List Value).toArray below meth cd s.heap [] 0 0 (MQ below (va_Qi (fun r c' => ((i < t.length ∧ ∃ f', pFlag (t.getD i 0) f = some f' ∧ r = 1 ∧ c' 52 = rO ad x0 x1 x2 x3 x4 x5 x6 x7 (bI f'.1) (bI f'.2.1) (bI f'.2.2.1) (bI f'.2.2.2) x12 v) ∨ (¬ (i < t.length ∧ ∃ f', pFlag (t.getD i 0) f = some f') ∧ r = 0 ∧ c' 52 = rO ad x0 x1 x2 x3 x4 x5 x6 x7 (bI f.1) (bI f.2.1) (bI f.2.2.1) (bI f.2.2.2) x12 v)) ∧ ∀ j, j ≠ 52 → c' j = c j) (mW D n ad) (mA n ad s.heap.size)) ([.ref (ad 52)] : List Value).toArray s 0 0 (mA n ad s.heap.size)) (F0 m 44 ls [.int (bI (f.1 || decide (y = 45))), .ref (ad 52)]) by
    refine lv_aload_n hx hb dX4_flag_26 rfl (lv_at hl 1 rfl) ?_
    refine mx_get (ci := 4) (v := .int (bI f.1)) (C := RX4) (T := TX4) (N := 20) hx hb hts inX4 hown hK hP (by omega : 52 < n) hO rfl 13 (by decide) (hts _ wm_281) (fun _ h9 => h9) rfl dX4_flag_27 ?_
    refine lv_if_ne (tgt := 39) hx hb dX4_flag_30 (by decide) (fun hc2 => ?_) (fun hc2 => ?_)
    · skip
      refine lv_iconst (v := 1) hx hb dX4_flag_39 (by decide) ?_
      refine lv_goto (tgt := 44) hx hb dX4_flag_40 (by decide) ?_
      refine mx_i (bI (f.1 || decide (y = 45))) (by rw [bI_ne hc2]; rfl) ?_
      exact hj44
    · skip
      refine lv_iload_n hx hb dX4_flag_33 rfl (lv_at hl 0 rfl) ?_
      refine lv_bipush (v := 45) hx hb dX4_flag_34 (by decide) ?_
      refine lv_icmp_ne (tgt := 43) hx hb dX4_flag_36 (by decide) (fun hc3 => ?_) (fun hc3 => ?_)
      · skip
        refine lv_iconst (v := 0) hx hb dX4_flag_43 (by decide) ?_
        refine mx_i (bI (f.1 || decide (y = 45))) (by rw [bI_eq hc2, decide_eq_false hc3]; rfl) ?_
        exact hj44
      · skip
        refine lv_iconst (v := 1) hx hb dX4_flag_39 (by decide) ?_
        refine lv_goto (tgt := 44) hx hb dX4_flag_40 (by decide) ?_
        refine mx_i (bI (f.1 || decide (y = 45))) (by rw [bI_eq hc2, decide_eq_true hc3]; rfl) ?_
        exact hj44
  refine mx_put (ci := 4) (v := .int (bI (f.1 || decide (y = 45)))) (ty := .boolean) (C := RX4) (T := TX4) (N := 20) hx hb hts inX4 tyX4 tyX4_ok nmX4 hown hK hP hD hS (by omega : 52 < n) hO rfl 13 (by decide) (hts _ wm_281) (fun _ h9 => h9) rfl (by decide +kernel) (by cases (f.1 || decide (y = 45)) <;> rfl) (by cases (f.1 || decide (y = 45)) <;> rfl) (Nat.le_of_ble_eq_true rfl) dX4_flag_44 (fun H locs hP hS => ?_)
  obtain ⟨a1, ea1⟩ : ∃ z : Nat → va_E, z = va_up c 52 (.inr (4, [.ref (ad 53), .ref (ad 54), .ref (ad 55), .ref (ad 56), .int x0, .int x1, .int x2, .int x3, .int x4, .ref (ad 57), .int x5, .int x6, .int x7, .int (bI (f.1 || decide (y = 45))), .int (bI f.2.1), .int (bI f.2.2.1), .int (bI f.2.2.2), .ref (ad 58), .int x12, .long v])) := ⟨_, rfl⟩
  have hP : va_P D vwCl (mw n ad a1) H := by rw [ea1]; exact hP
  have hsa1 : ∀ j, j ≠ 52 → a1 j = c j := fun j h => by rw [ea1]; exact va_up_ne _ _ h
  have hca1 : a1 52 = .inr (4, [.ref (ad 53), .ref (ad 54), .ref (ad 55), .ref (ad 56), .int x0, .int x1, .int x2, .int x3, .int x4, .ref (ad 57), .int x5, .int x6, .int x7, .int (bI (f.1 || decide (y = 45))), .int (bI f.2.1), .int (bI f.2.2.1), .int (bI f.2.2.2), .ref (ad 58), .int x12, .long v]) := by rw [ea1]; exact va_up_self _ _ _
  refine lv_aload_n hx hb dX4_flag_47 rfl (lv_at hl 1 rfl) ?_
  suffices hj66 : W pg9 l ev9 (headSpec wsX4_flag ({ frames := 0, cells := 0, slots := 0, locals := 0 })).room s m ([.ref (ad 52)] : List Value).toArray below meth cd H locs 0 0 (MQ below (va_Qi (fun r c' => ((i < t.length ∧ ∃ f', pFlag (t.getD i 0) f = some f' ∧ r = 1 ∧ c' 52 = rO ad x0 x1 x2 x3 x4 x5 x6 x7 (bI f'.1) (bI f'.2.1) (bI f'.2.2.1) (bI f'.2.2.2) x12 v) ∨ (¬ (i < t.length ∧ ∃ f', pFlag (t.getD i 0) f = some f') ∧ r = 0 ∧ c' 52 = rO ad x0 x1 x2 x3 x4 x5 x6 x7 (bI f.1) (bI f.2.1) (bI f.2.2.1) (bI f.2.2.2) x12 v)) ∧ ∀ j, j ≠ 52 → c' j = c j) (mW D n ad) (mA n ad s.heap.size)) ([.ref (ad 52)] : List Value).toArray s 0 0 (mA n ad s.heap.size)) (F0 m 66 ls [.int (bI (f.2.1 || decide (y = 48))), .ref (ad 52)]) by
    refine lv_aload_n hx hb dX4_flag_48 rfl (lv_at hl 1 rfl) ?_
    refine mx_get (ci := 4) (v := .int (bI f.2.1)) (C := RX4) (T := TX4) (N := 20) hx hb hts inX4 hown hK hP (by omega : 52 < n) hca1 rfl 14 (by decide) (hts _ wm_282) (fun _ h9 => h9) rfl dX4_flag_49 ?_
    refine lv_if_ne (tgt := 61) hx hb dX4_flag_52 (by decide) (fun hc2 => ?_) (fun hc2 => ?_)
    · skip
      refine lv_iconst (v := 1) hx hb dX4_flag_61 (by decide) ?_
      refine lv_goto (tgt := 66) hx hb dX4_flag_62 (by decide) ?_
      refine mx_i (bI (f.2.1 || decide (y = 48))) (by rw [bI_ne hc2]; rfl) ?_
      exact hj66
    · skip
      refine lv_iload_n hx hb dX4_flag_55 rfl (lv_at hl 0 rfl) ?_
      refine lv_bipush (v := 48) hx hb dX4_flag_56 (by decide) ?_
      refine lv_icmp_ne (tgt := 65) hx hb dX4_flag_58 (by decide) (fun hc3 => ?_) (fun hc3 => ?_)
      · skip
        refine lv_iconst (v := 0) hx hb dX4_flag_65 (by decide) ?_
        refine mx_i (bI (f.2.1 || decide (y = 48))) (by rw [bI_eq hc2, decide_eq_false hc3]; rfl) ?_
        exact hj66
      · skip
        refine lv_iconst (v := 1) hx hb dX4_flag_61 (by decide) ?_
        refine lv_goto (tgt := 66) hx hb dX4_flag_62 (by decide) ?_
        refine mx_i (bI (f.2.1 || decide (y = 48))) (by rw [bI_eq hc2, decide_eq_true hc3]; rfl) ?_
        exact hj66
  refine mx_put (ci := 4) (v := .int (bI (f.2.1 || decide (y = 48)))) (ty := .boolean) (C := RX4) (T := TX4) (N := 20) hx hb hts inX4 tyX4 tyX4_ok nmX4 hown hK hP hD hS (by omega : 52 < n) hca1 rfl 14 (by decide) (hts _ wm_282) (fun _ h9 => h9) rfl (by decide +kernel) (by cases (f.2.1 || decide (y = 48)) <;> rfl) (by cases (f.2.1 || decide (y = 48)) <;> rfl) (Nat.le_of_ble_eq_true rfl) dX4_flag_66 (fun H locs hP hS => ?_)
  obtain ⟨a2, ea2⟩ : ∃ z : Nat → va_E, z = va_up a1 52 (.inr (4, [.ref (ad 53), .ref (ad 54), .ref (ad 55), .ref (ad 56), .int x0, .int x1, .int x2, .int x3, .int x4, .ref (ad 57), .int x5, .int x6, .int x7, .int (bI (f.1 || decide (y = 45))), .int (bI (f.2.1 || decide (y = 48))), .int (bI f.2.2.1), .int (bI f.2.2.2), .ref (ad 58), .int x12, .long v])) := ⟨_, rfl⟩
  have hP : va_P D vwCl (mw n ad a2) H := by rw [ea2]; exact hP
  have hsa2 : ∀ j, j ≠ 52 → a2 j = a1 j := fun j h => by rw [ea2]; exact va_up_ne _ _ h
  have hca2 : a2 52 = .inr (4, [.ref (ad 53), .ref (ad 54), .ref (ad 55), .ref (ad 56), .int x0, .int x1, .int x2, .int x3, .int x4, .ref (ad 57), .int x5, .int x6, .int x7, .int (bI (f.1 || decide (y = 45))), .int (bI (f.2.1 || decide (y = 48))), .int (bI f.2.2.1), .int (bI f.2.2.2), .ref (ad 58), .int x12, .long v]) := by rw [ea2]; exact va_up_self _ _ _
  refine lv_aload_n hx hb dX4_flag_69 rfl (lv_at hl 1 rfl) ?_
  suffices hj88 : W pg9 l ev9 (headSpec wsX4_flag ({ frames := 0, cells := 0, slots := 0, locals := 0 })).room s m ([.ref (ad 52)] : List Value).toArray below meth cd H locs 0 0 (MQ below (va_Qi (fun r c' => ((i < t.length ∧ ∃ f', pFlag (t.getD i 0) f = some f' ∧ r = 1 ∧ c' 52 = rO ad x0 x1 x2 x3 x4 x5 x6 x7 (bI f'.1) (bI f'.2.1) (bI f'.2.2.1) (bI f'.2.2.2) x12 v) ∨ (¬ (i < t.length ∧ ∃ f', pFlag (t.getD i 0) f = some f') ∧ r = 0 ∧ c' 52 = rO ad x0 x1 x2 x3 x4 x5 x6 x7 (bI f.1) (bI f.2.1) (bI f.2.2.1) (bI f.2.2.2) x12 v)) ∧ ∀ j, j ≠ 52 → c' j = c j) (mW D n ad) (mA n ad s.heap.size)) ([.ref (ad 52)] : List Value).toArray s 0 0 (mA n ad s.heap.size)) (F0 m 88 ls [.int (bI (f.2.2.1 || decide (y = 43))), .ref (ad 52)]) by
    refine lv_aload_n hx hb dX4_flag_70 rfl (lv_at hl 1 rfl) ?_
    refine mx_get (ci := 4) (v := .int (bI f.2.2.1)) (C := RX4) (T := TX4) (N := 20) hx hb hts inX4 hown hK hP (by omega : 52 < n) hca2 rfl 15 (by decide) (hts _ wm_283) (fun _ h9 => h9) rfl dX4_flag_71 ?_
    refine lv_if_ne (tgt := 83) hx hb dX4_flag_74 (by decide) (fun hc2 => ?_) (fun hc2 => ?_)
    · skip
      refine lv_iconst (v := 1) hx hb dX4_flag_83 (by decide) ?_
      refine lv_goto (tgt := 88) hx hb dX4_flag_84 (by decide) ?_
      refine mx_i (bI (f.2.2.1 || decide (y = 43))) (by rw [bI_ne hc2]; rfl) ?_
      exact hj88
    · skip
      refine lv_iload_n hx hb dX4_flag_77 rfl (lv_at hl 0 rfl) ?_
      refine lv_bipush (v := 43) hx hb dX4_flag_78 (by decide) ?_
      refine lv_icmp_ne (tgt := 87) hx hb dX4_flag_80 (by decide) (fun hc3 => ?_) (fun hc3 => ?_)
      · skip
        refine lv_iconst (v := 0) hx hb dX4_flag_87 (by decide) ?_
        refine mx_i (bI (f.2.2.1 || decide (y = 43))) (by rw [bI_eq hc2, decide_eq_false hc3]; rfl) ?_
        exact hj88
      · skip
        refine lv_iconst (v := 1) hx hb dX4_flag_83 (by decide) ?_
        refine lv_goto (tgt := 88) hx hb dX4_flag_84 (by decide) ?_
        refine mx_i (bI (f.2.2.1 || decide (y = 43))) (by rw [bI_eq hc2, decide_eq_true hc3]; rfl) ?_
        exact hj88
  refine mx_put (ci := 4) (v := .int (bI (f.2.2.1 || decide (y = 43)))) (ty := .boolean) (C := RX4) (T := TX4) (N := 20) hx hb hts inX4 tyX4 tyX4_ok nmX4 hown hK hP hD hS (by omega : 52 < n) hca2 rfl 15 (by decide) (hts _ wm_283) (fun _ h9 => h9) rfl (by decide +kernel) (by cases (f.2.2.1 || decide (y = 43)) <;> rfl) (by cases (f.2.2.1 || decide (y = 43)) <;> rfl) (Nat.le_of_ble_eq_true rfl) dX4_flag_88 (fun H locs hP hS => ?_)
  obtain ⟨a3, ea3⟩ : ∃ z : Nat → va_E, z = va_up a2 52 (.inr (4, [.ref (ad 53), .ref (ad 54), .ref (ad 55), .ref (ad 56), .int x0, .int x1, .int x2, .int x3, .int x4, .ref (ad 57), .int x5, .int x6, .int x7, .int (bI (f.1 || decide (y = 45))), .int (bI (f.2.1 || decide (y = 48))), .int (bI (f.2.2.1 || decide (y = 43))), .int (bI f.2.2.2), .ref (ad 58), .int x12, .long v])) := ⟨_, rfl⟩
  have hP : va_P D vwCl (mw n ad a3) H := by rw [ea3]; exact hP
  have hsa3 : ∀ j, j ≠ 52 → a3 j = a2 j := fun j h => by rw [ea3]; exact va_up_ne _ _ h
  have hca3 : a3 52 = .inr (4, [.ref (ad 53), .ref (ad 54), .ref (ad 55), .ref (ad 56), .int x0, .int x1, .int x2, .int x3, .int x4, .ref (ad 57), .int x5, .int x6, .int x7, .int (bI (f.1 || decide (y = 45))), .int (bI (f.2.1 || decide (y = 48))), .int (bI (f.2.2.1 || decide (y = 43))), .int (bI f.2.2.2), .ref (ad 58), .int x12, .long v]) := by rw [ea3]; exact va_up_self _ _ _
  refine lv_aload_n hx hb dX4_flag_91 rfl (lv_at hl 1 rfl) ?_
  suffices hj110 : W pg9 l ev9 (headSpec wsX4_flag ({ frames := 0, cells := 0, slots := 0, locals := 0 })).room s m ([.ref (ad 52)] : List Value).toArray below meth cd H locs 0 0 (MQ below (va_Qi (fun r c' => ((i < t.length ∧ ∃ f', pFlag (t.getD i 0) f = some f' ∧ r = 1 ∧ c' 52 = rO ad x0 x1 x2 x3 x4 x5 x6 x7 (bI f'.1) (bI f'.2.1) (bI f'.2.2.1) (bI f'.2.2.2) x12 v) ∨ (¬ (i < t.length ∧ ∃ f', pFlag (t.getD i 0) f = some f') ∧ r = 0 ∧ c' 52 = rO ad x0 x1 x2 x3 x4 x5 x6 x7 (bI f.1) (bI f.2.1) (bI f.2.2.1) (bI f.2.2.2) x12 v)) ∧ ∀ j, j ≠ 52 → c' j = c j) (mW D n ad) (mA n ad s.heap.size)) ([.ref (ad 52)] : List Value).toArray s 0 0 (mA n ad s.heap.size)) (F0 m 110 ls [.int (bI (f.2.2.2 || decide (y = 32))), .ref (ad 52)]) by
    refine lv_aload_n hx hb dX4_flag_92 rfl (lv_at hl 1 rfl) ?_
    refine mx_get (ci := 4) (v := .int (bI f.2.2.2)) (C := RX4) (T := TX4) (N := 20) hx hb hts inX4 hown hK hP (by omega : 52 < n) hca3 rfl 16 (by decide) (hts _ wm_284) (fun _ h9 => h9) rfl dX4_flag_93 ?_
    refine lv_if_ne (tgt := 105) hx hb dX4_flag_96 (by decide) (fun hc2 => ?_) (fun hc2 => ?_)
    · skip
      refine lv_iconst (v := 1) hx hb dX4_flag_105 (by decide) ?_
      refine lv_goto (tgt := 110) hx hb dX4_flag_106 (by decide) ?_
      refine mx_i (bI (f.2.2.2 || decide (y = 32))) (by rw [bI_ne hc2]; rfl) ?_
      exact hj110
    · skip
      refine lv_iload_n hx hb dX4_flag_99 rfl (lv_at hl 0 rfl) ?_
      refine lv_bipush (v := 32) hx hb dX4_flag_100 (by decide) ?_
      refine lv_icmp_ne (tgt := 109) hx hb dX4_flag_102 (by decide) (fun hc3 => ?_) (fun hc3 => ?_)
      · skip
        refine lv_iconst (v := 0) hx hb dX4_flag_109 (by decide) ?_
        refine mx_i (bI (f.2.2.2 || decide (y = 32))) (by rw [bI_eq hc2, decide_eq_false hc3]; rfl) ?_
        exact hj110
      · skip
        refine lv_iconst (v := 1) hx hb dX4_flag_105 (by decide) ?_
        refine lv_goto (tgt := 110) hx hb dX4_flag_106 (by decide) ?_
        refine mx_i (bI (f.2.2.2 || decide (y = 32))) (by rw [bI_eq hc2, decide_eq_true hc3]; rfl) ?_
        exact hj110
  refine mx_put (ci := 4) (v := .int (bI (f.2.2.2 || decide (y = 32)))) (ty := .boolean) (C := RX4) (T := TX4) (N := 20) hx hb hts inX4 tyX4 tyX4_ok nmX4 hown hK hP hD hS (by omega : 52 < n) hca3 rfl 16 (by decide) (hts _ wm_284) (fun _ h9 => h9) rfl (by decide +kernel) (by cases (f.2.2.2 || decide (y = 32)) <;> rfl) (by cases (f.2.2.2 || decide (y = 32)) <;> rfl) (Nat.le_of_ble_eq_true rfl) dX4_flag_110 (fun H locs hP hS => ?_)
  obtain ⟨a4, ea4⟩ : ∃ z : Nat → va_E, z = va_up a3 52 (.inr (4, [.ref (ad 53), .ref (ad 54), .ref (ad 55), .ref (ad 56), .int x0, .int x1, .int x2, .int x3, .int x4, .ref (ad 57), .int x5, .int x6, .int x7, .int (bI (f.1 || decide (y = 45))), .int (bI (f.2.1 || decide (y = 48))), .int (bI (f.2.2.1 || decide (y = 43))), .int (bI (f.2.2.2 || decide (y = 32))), .ref (ad 58), .int x12, .long v])) := ⟨_, rfl⟩
  have hP : va_P D vwCl (mw n ad a4) H := by rw [ea4]; exact hP
  have hsa4 : ∀ j, j ≠ 52 → a4 j = a3 j := fun j h => by rw [ea4]; exact va_up_ne _ _ h
  have hca4 : a4 52 = .inr (4, [.ref (ad 53), .ref (ad 54), .ref (ad 55), .ref (ad 56), .int x0, .int x1, .int x2, .int x3, .int x4, .ref (ad 57), .int x5, .int x6, .int x7, .int (bI (f.1 || decide (y = 45))), .int (bI (f.2.1 || decide (y = 48))), .int (bI (f.2.2.1 || decide (y = 43))), .int (bI (f.2.2.2 || decide (y = 32))), .ref (ad 58), .int x12, .long v]) := by rw [ea4]; exact va_up_self _ _ _
  suffices hj142 : W pg9 l ev9 (headSpec wsX4_flag ({ frames := 0, cells := 0, slots := 0, locals := 0 })).room s m ([.ref (ad 52)] : List Value).toArray below meth cd H locs 0 0 (MQ below (va_Qi (fun r c' => ((i < t.length ∧ ∃ f', pFlag (t.getD i 0) f = some f' ∧ r = 1 ∧ c' 52 = rO ad x0 x1 x2 x3 x4 x5 x6 x7 (bI f'.1) (bI f'.2.1) (bI f'.2.2.1) (bI f'.2.2.2) x12 v) ∨ (¬ (i < t.length ∧ ∃ f', pFlag (t.getD i 0) f = some f') ∧ r = 0 ∧ c' 52 = rO ad x0 x1 x2 x3 x4 x5 x6 x7 (bI f.1) (bI f.2.1) (bI f.2.2.1) (bI f.2.2.2) x12 v)) ∧ ∀ j, j ≠ 52 → c' j = c j) (mW D n ad) (mA n ad s.heap.size)) ([.ref (ad 52)] : List Value).toArray s 0 0 (mA n ad s.heap.size)) (F0 m 142 ls [.int (bI (decide (y = 45 ∨ y = 48 ∨ y = 43 ∨ y = 32)))]) by
    refine lv_iload_n hx hb dX4_flag_113 rfl (lv_at hl 0 rfl) ?_
    refine lv_bipush (v := 45) hx hb dX4_flag_114 (by decide) ?_
    refine lv_icmp_eq (tgt := 137) hx hb dX4_flag_116 (by decide) (fun hc4 => ?_) (fun hc4 => ?_)
    · skip
      refine lv_iconst (v := 1) hx hb dX4_flag_137 (by decide) ?_
      refine lv_goto (tgt := 142) hx hb dX4_flag_138 (by decide) ?_
      refine mx_i (bI (decide (y = 45 ∨ y = 48 ∨ y = 43 ∨ y = 32))) (by rw [decide_eq_true (Or.inl hc4)]; rfl) ?_
      exact hj142
    · skip
      refine lv_iload_n hx hb dX4_flag_119 rfl (lv_at hl 0 rfl) ?_
      refine lv_bipush (v := 48) hx hb dX4_flag_120 (by decide) ?_
      refine lv_icmp_eq (tgt := 137) hx hb dX4_flag_122 (by decide) (fun hc5 => ?_) (fun hc5 => ?_)
      · skip
        refine lv_iconst (v := 1) hx hb dX4_flag_137 (by decide) ?_
        refine lv_goto (tgt := 142) hx hb dX4_flag_138 (by decide) ?_
        refine mx_i (bI (decide (y = 45 ∨ y = 48 ∨ y = 43 ∨ y = 32))) (by rw [decide_eq_true (Or.inr (Or.inl hc5))]; rfl) ?_
        exact hj142
      · skip
        refine lv_iload_n hx hb dX4_flag_125 rfl (lv_at hl 0 rfl) ?_
        refine lv_bipush (v := 43) hx hb dX4_flag_126 (by decide) ?_
        refine lv_icmp_eq (tgt := 137) hx hb dX4_flag_128 (by decide) (fun hc6 => ?_) (fun hc6 => ?_)
        · skip
          refine lv_iconst (v := 1) hx hb dX4_flag_137 (by decide) ?_
          refine lv_goto (tgt := 142) hx hb dX4_flag_138 (by decide) ?_
          refine mx_i (bI (decide (y = 45 ∨ y = 48 ∨ y = 43 ∨ y = 32))) (by rw [decide_eq_true (Or.inr (Or.inr (Or.inl hc6)))]; rfl) ?_
          exact hj142
        · skip
          refine lv_iload_n hx hb dX4_flag_131 rfl (lv_at hl 0 rfl) ?_
          refine lv_bipush (v := 32) hx hb dX4_flag_132 (by decide) ?_
          refine lv_icmp_ne (tgt := 141) hx hb dX4_flag_134 (by decide) (fun hc7 => ?_) (fun hc7 => ?_)
          · skip
            refine lv_iconst (v := 0) hx hb dX4_flag_141 (by decide) ?_
            refine mx_i (bI (decide (y = 45 ∨ y = 48 ∨ y = 43 ∨ y = 32))) (by rw [decide_eq_false (fun h => h.elim hc4 (fun h => h.elim hc5 (fun h => h.elim hc6 hc7)))]; rfl) ?_
            exact hj142
          · skip
            refine lv_iconst (v := 1) hx hb dX4_flag_137 (by decide) ?_
            refine lv_goto (tgt := 142) hx hb dX4_flag_138 (by decide) ?_
            refine mx_i (bI (decide (y = 45 ∨ y = 48 ∨ y = 43 ∨ y = 32))) (by rw [decide_eq_true (Or.inr (Or.inr (Or.inr hc7)))]; rfl) ?_
            exact hj142
  have hfin := fl_fin (ad := ad) (x0 := x0) (x1 := x1) (x2 := x2) (x3 := x3) (x4 := x4) (x5 := x5) (x6 := x6) (x7 := x7) (x12 := x12) (v := v) (f := f) (e := a4 52) hby hi hy hca4
  have hfr : ∀ j, j ≠ 52 → a4 j = c j := fun j h => (hsa4 j h).trans ((hsa3 j h).trans ((hsa2 j h).trans (hsa1 j h)))
  generalize decide (y = 45 ∨ y = 48 ∨ y = 43 ∨ y = 32) = gg at hfin ⊢
  cases gg
  · skip
    exact mx_zret hx hb hr hlocks rfl hP hS (⟨hfin, hfr⟩) dX4_flag_142
  · skip
    exact mx_zret hx hb hr hlocks rfl hP hS (⟨hfin, hfr⟩) dX4_flag_142
set_option maxHeartbeats 4000000 in
set_option maxRecDepth 100000 in
/-- readPlace() -/
theorem c_readPlace (l : Launch) (D : va_G) (ca : Nat → ClassId) (n : Nat) (ad : Nat → Nat) (c : Nat → va_E) {x0 x1 x2 x3 x4 x6 x7 x12 : Int32} {f : fl4} {v : Int64} (hn : 59 ≤ n) {t : List Nat} {i0 : Nat} (hO : c 52 = rO ad x0 x1 x2 x3 x4 (nI i0) x6 x7 (bI f.1) (bI f.2.1) (bI f.2.2.1) (bI f.2.2.2) x12 v) (hB : tB ca c 54 400 0 t) (hx1 : x1 = nI t.length) (hi0 : i0 ≤ t.length) : mInt l yX4_readPlace wsX4_readPlace ({ frames := 1, cells := 0, slots := 0, locals := 21 }) [.ref (ad 52)] D (tTY ca) n ad c (fun r c' => ∃ i kd, i ≤ t.length ∧ t.drop i = (pPlace (t.drop i0)).2.2 ∧ c' 52 = rO ad x0 x1 x2 x3 x4 (nI (i + 1)) (nI (pPlace (t.drop i0)).2.1) kd (bI ((pPlace (t.drop i0)).1).1) (bI ((pPlace (t.drop i0)).1).2.1) (bI ((pPlace (t.drop i0)).1).2.2.1) (bI ((pPlace (t.drop i0)).1).2.2.2) x12 v ∧ (∀ j, j ≠ 52 → c' j = c j) ∧ (i < t.length → kd = sB (t.getD i 0)) ∧ ((i < t.length ∧ isKd (t.getD i 0) = true ∧ r = 1) ∨ (¬ (i < t.length ∧ isKd (t.getD i 0) = true) ∧ r = 0))) := by
  intro sz
  refine Met.ofW (cc := cX4_readPlace) (maxL := 1) (ret := (some .boolean)) (by decide) rfl ?_
  intro pg9 ev9 s m args below meth cd s₁ B hml hv
  obtain ⟨rfl, hsz, hP, hK, hD0, hN⟩ := hv
  have hx := B.exec
  have hb := B.bytes
  have hr := B.returns
  have hts := fun (w : Cond) (h : w ∈ WSa) => atoms_spec (ws := wsX4_readPlace) B.pre w (List.mem_cons_of_mem _ h)
  have hown : s.vm.findClass RX4 = some m.cls := findClass_of_methodNamed B.named
  have hlocks := B.notSynchronized
  subst hsz
  have hD : ∀ c, va_D (fun _ => True) (mw n ad c) := fun c' => mw_D hD0 c'
  have hS : va_S (mA n ad s.heap.size) s.heap s.heap [] := va_S.rf
  have hl := lv_entry ([.ref (ad 52)]) (n := 1) (Nat.le_of_ble_eq_true rfl)
  rw [lg_entry_eq]
  generalize (lg_sl ([.ref (ad 52)]) ++ List.replicate (1 - (lg_sl ([.ref (ad 52)])).length) Slot.unset).toArray = ls at hl ⊢
  have hl : lv_has ls 1 [(0, .ref (ad 52))] := hl
  obtain ⟨hle, hcp, hby, g, h54, hg⟩ := id hB
  have loop2 : ∀ (q1 : Nat) (i : Nat) (w1 : Nat) (c2 : Nat → va_E) (H : Heap) (locs : List Loc) (ls : Array Slot), (i ≤ t.length) → (t.length < i + q1) → (w1 ≤ 100000) → ((pPlace (t.drop i0)).2 = pWid (t.drop i) w1) → (c2 52 = rO ad x0 x1 x2 x3 x4 (nI i) (nI w1) x7 (bI ((pFlags (t.drop i0) (false, false, false, false)).1).1) (bI ((pFlags (t.drop i0) (false, false, false, false)).1).2.1) (bI ((pFlags (t.drop i0) (false, false, false, false)).1).2.2.1) (bI ((pFlags (t.drop i0) (false, false, false, false)).1).2.2.2) x12 v) → (∀ j, j ≠ 52 → c2 j = c j) → va_P D vwCl (mw n ad c2) H → va_S (mA n ad s.heap.size) s.heap H locs → lv_has ls 1 [(0, .ref (ad 52))] → W pg9 l ev9 (headSpec wsX4_readPlace ({ frames := 1, cells := 0, slots := 0, locals := 21 })).room s m ([.ref (ad 52)] : List Value).toArray below meth cd H locs 0 0 (MQ below (va_Qi (fun r c' => ∃ i kd, i ≤ t.length ∧ t.drop i = (pPlace (t.drop i0)).2.2 ∧ c' 52 = rO ad x0 x1 x2 x3 x4 (nI (i + 1)) (nI (pPlace (t.drop i0)).2.1) kd (bI ((pPlace (t.drop i0)).1).1) (bI ((pPlace (t.drop i0)).1).2.1) (bI ((pPlace (t.drop i0)).1).2.2.1) (bI ((pPlace (t.drop i0)).1).2.2.2) x12 v ∧ (∀ j, j ≠ 52 → c' j = c j) ∧ (i < t.length → kd = sB (t.getD i 0)) ∧ ((i < t.length ∧ isKd (t.getD i 0) = true ∧ r = 1) ∨ (¬ (i < t.length ∧ isKd (t.getD i 0) = true) ∧ r = 0))) (mW D n ad) (mA n ad s.heap.size)) ([.ref (ad 52)] : List Value).toArray s 0 0 (mA n ad s.heap.size)) (F0 m 45 ls []) := by
    intro q1
    induction q1 with
    | zero => intro i w1 c2 H locs ls hi hq hw1 heq hO2 hs2 hP hS hl; omega
    | succ q1 ih =>
      intro i w1 c2 H locs ls hi hq hw1 heq hO2 hs2 hP hS hl
      have h54 := (hs2 54 (by omega)).trans h54
      refine lv_aload_n hx hb dX4_readPlace_45 rfl (lv_at hl 0 rfl) ?_
      refine mx_get (ci := 4) (v := .int (nI i)) (C := RX4) (T := TX4) (N := 20) hx hb hts inX4 hown hK hP (by omega : 52 < n) hO2 rfl 10 (by decide) (hts _ wm_278) (fun _ h9 => h9) rfl dX4_readPlace_46 ?_
      refine lv_aload_n hx hb dX4_readPlace_49 rfl (lv_at hl 0 rfl) ?_
      refine mx_get (ci := 4) (v := .int x1) (C := RX4) (T := TX4) (N := 20) hx hb hts inX4 hown hK hP (by omega : 52 < n) hO2 rfl 5 (by decide) (hts _ wm_273) (fun _ h9 => h9) rfl dX4_readPlace_50 ?_
      refine lv_icmp_ge (tgt := 143) hx hb dX4_readPlace_53 (by decide) (fun hc1 => ?_) (fun hc1 => ?_)
      · skip
        have hge : t.length ≤ i := by have := (nI_leI (a := t.length) (b := i) (by omega) (by omega)).mp (by rw [← hx1]; exact hc1); omega
        refine lv_aload_n hx hb dX4_readPlace_143 rfl (lv_at hl 0 rfl) ?_
        have hdr : t.drop i = (pPlace (t.drop i0)).2.2 ∧ w1 = (pPlace (t.drop i0)).2.1 := by
          have h9 : (pPlace (t.drop i0)).2 = pWid (t.drop i) w1 := heq
          rw [h9, show pWid (t.drop i) w1 = (w1, t.drop i) from by rw [dr_nil hge]; rfl]
          exact ⟨rfl, rfl⟩
        suffices hj168 : W pg9 l ev9 (headSpec wsX4_readPlace ({ frames := 1, cells := 0, slots := 0, locals := 21 })).room s m ([.ref (ad 52)] : List Value).toArray below meth cd H locs 0 0 (MQ below (va_Qi (fun r c' => ∃ i kd, i ≤ t.length ∧ t.drop i = (pPlace (t.drop i0)).2.2 ∧ c' 52 = rO ad x0 x1 x2 x3 x4 (nI (i + 1)) (nI (pPlace (t.drop i0)).2.1) kd (bI ((pPlace (t.drop i0)).1).1) (bI ((pPlace (t.drop i0)).1).2.1) (bI ((pPlace (t.drop i0)).1).2.2.1) (bI ((pPlace (t.drop i0)).1).2.2.2) x12 v ∧ (∀ j, j ≠ 52 → c' j = c j) ∧ (i < t.length → kd = sB (t.getD i 0)) ∧ ((i < t.length ∧ isKd (t.getD i 0) = true ∧ r = 1) ∨ (¬ (i < t.length ∧ isKd (t.getD i 0) = true) ∧ r = 0))) (mW D n ad) (mA n ad s.heap.size)) ([.ref (ad 52)] : List Value).toArray s 0 0 (mA n ad s.heap.size)) (F0 m 168 ls [.int (tAz t i), .ref (ad 52)]) by
          refine lv_aload_n hx hb dX4_readPlace_144 rfl (lv_at hl 0 rfl) ?_
          refine mx_get (ci := 4) (v := .int (nI i)) (C := RX4) (T := TX4) (N := 20) hx hb hts inX4 hown hK hP (by omega : 52 < n) hO2 rfl 10 (by decide) (hts _ wm_278) (fun _ h9 => h9) rfl dX4_readPlace_145 ?_
          refine lv_aload_n hx hb dX4_readPlace_148 rfl (lv_at hl 0 rfl) ?_
          refine mx_get (ci := 4) (v := .int x1) (C := RX4) (T := TX4) (N := 20) hx hb hts inX4 hown hK hP (by omega : 52 < n) hO2 rfl 5 (by decide) (hts _ wm_273) (fun _ h9 => h9) rfl dX4_readPlace_149 ?_
          refine lv_icmp_ge (tgt := 167) hx hb dX4_readPlace_152 (by decide) (fun hk1 => ?_) (fun hk1 => ?_)
          · skip
            refine lv_iconst (v := 0) hx hb dX4_readPlace_167 (by decide) ?_
            refine mx_i (tAz t i) (by rw [show tAz t i = 0 from if_neg (by have := (nI_leI (a := t.length) (b := i) (by omega) (by omega)).mp (by rw [← hx1]; exact hk1); omega)]) ?_
            exact hj168
          · skip
            have hlk : i < t.length := by have := (not_congr (nI_leI (a := t.length) (b := i) (by omega) (by omega))).mp (by rw [← hx1]; exact hk1); omega
            refine lv_aload_n hx hb dX4_readPlace_155 rfl (lv_at hl 0 rfl) ?_
            refine mx_get (ci := 4) (v := .ref (ad 54)) (C := RX4) (T := TX4) (N := 20) hx hb hts inX4 hown hK hP (by omega : 52 < n) hO2 rfl 1 (by decide) (hts _ wm_269) (fun _ h9 => h9) rfl dX4_readPlace_156 ?_
            refine lv_aload_n hx hb dX4_readPlace_159 rfl (lv_at hl 0 rfl) ?_
            refine mx_get (ci := 4) (v := .int (nI i)) (C := RX4) (T := TX4) (N := 20) hx hb hts inX4 hown hK hP (by omega : 52 < n) hO2 rfl 10 (by decide) (hts _ wm_278) (fun _ h9 => h9) rfl dX4_readPlace_160 ?_
            refine mx_bald hx hb hK hP (by omega : 54 < n) 2 h54 rfl (vp_in_nI (by omega) (by omega)) dX4_readPlace_163 ?_
            refine mx_i (tAz t i) (by rw [nI_clamp (by omega), show tAz t i = sB (t.getD i 0) from if_pos hlk]; have h9 := hg i hlk; rw [Nat.zero_add] at h9; exact h9) ?_
            refine lv_goto (tgt := 168) hx hb dX4_readPlace_164 (by decide) ?_
            refine mx_i (tAz t i) (rfl) ?_
            exact hj168
        refine mx_put (ci := 4) (v := .int (tAz t i)) (ty := .int) (C := RX4) (T := TX4) (N := 20) hx hb hts inX4 tyX4 tyX4_ok nmX4 hown hK hP hD hS (by omega : 52 < n) hO2 rfl 12 (by decide) (hts _ wm_280) (fun _ h9 => h9) rfl (by decide +kernel) rfl rfl (Nat.le_of_ble_eq_true rfl) dX4_readPlace_168 (fun H locs hP hS => ?_)
        obtain ⟨b1, eb1⟩ : ∃ z : Nat → va_E, z = va_up c2 52 (.inr (4, [.ref (ad 53), .ref (ad 54), .ref (ad 55), .ref (ad 56), .int x0, .int x1, .int x2, .int x3, .int x4, .ref (ad 57), .int (nI i), .int (nI w1), .int (tAz t i), .int (bI ((pFlags (t.drop i0) (false, false, false, false)).1).1), .int (bI ((pFlags (t.drop i0) (false, false, false, false)).1).2.1), .int (bI ((pFlags (t.drop i0) (false, false, false, false)).1).2.2.1), .int (bI ((pFlags (t.drop i0) (false, false, false, false)).1).2.2.2), .ref (ad 58), .int x12, .long v])) := ⟨_, rfl⟩
        have hP : va_P D vwCl (mw n ad b1) H := by rw [eb1]; exact hP
        have hsb1 : ∀ j, j ≠ 52 → b1 j = c2 j := fun j h => by rw [eb1]; exact va_up_ne _ _ h
        have hcb1 : b1 52 = .inr (4, [.ref (ad 53), .ref (ad 54), .ref (ad 55), .ref (ad 56), .int x0, .int x1, .int x2, .int x3, .int x4, .ref (ad 57), .int (nI i), .int (nI w1), .int (tAz t i), .int (bI ((pFlags (t.drop i0) (false, false, false, false)).1).1), .int (bI ((pFlags (t.drop i0) (false, false, false, false)).1).2.1), .int (bI ((pFlags (t.drop i0) (false, false, false, false)).1).2.2.1), .int (bI ((pFlags (t.drop i0) (false, false, false, false)).1).2.2.2), .ref (ad 58), .int x12, .long v]) := by rw [eb1]; exact va_up_self _ _ _
        refine lv_aload_n hx hb dX4_readPlace_171 rfl (lv_at hl 0 rfl) ?_
        refine lv_dup hx hb dX4_readPlace_172 rfl ?_
        refine mx_get (ci := 4) (v := .int (nI i)) (C := RX4) (T := TX4) (N := 20) hx hb hts inX4 hown hK hP (by omega : 52 < n) hcb1 rfl 10 (by decide) (hts _ wm_278) (fun _ h9 => h9) rfl dX4_readPlace_173 ?_
        refine lv_iconst (v := 1) hx hb dX4_readPlace_176 (by decide) ?_
        refine lv_iadd hx hb dX4_readPlace_177 ?_
        refine mx_i (nI (i + 1)) (nI_1 i) ?_
        refine mx_put (ci := 4) (v := .int (nI (i + 1))) (ty := .int) (C := RX4) (T := TX4) (N := 20) hx hb hts inX4 tyX4 tyX4_ok nmX4 hown hK hP hD hS (by omega : 52 < n) hcb1 rfl 10 (by decide) (hts _ wm_278) (fun _ h9 => h9) rfl (by decide +kernel) rfl rfl (Nat.le_of_ble_eq_true rfl) dX4_readPlace_178 (fun H locs hP hS => ?_)
        obtain ⟨b2, eb2⟩ : ∃ z : Nat → va_E, z = va_up b1 52 (.inr (4, [.ref (ad 53), .ref (ad 54), .ref (ad 55), .ref (ad 56), .int x0, .int x1, .int x2, .int x3, .int x4, .ref (ad 57), .int (nI (i + 1)), .int (nI w1), .int (tAz t i), .int (bI ((pFlags (t.drop i0) (false, false, false, false)).1).1), .int (bI ((pFlags (t.drop i0) (false, false, false, false)).1).2.1), .int (bI ((pFlags (t.drop i0) (false, false, false, false)).1).2.2.1), .int (bI ((pFlags (t.drop i0) (false, false, false, false)).1).2.2.2), .ref (ad 58), .int x12, .long v])) := ⟨_, rfl⟩
        have hP : va_P D vwCl (mw n ad b2) H := by rw [eb2]; exact hP
        have hsb2 : ∀ j, j ≠ 52 → b2 j = b1 j := fun j h => by rw [eb2]; exact va_up_ne _ _ h
        have hcb2 : b2 52 = .inr (4, [.ref (ad 53), .ref (ad 54), .ref (ad 55), .ref (ad 56), .int x0, .int x1, .int x2, .int x3, .int x4, .ref (ad 57), .int (nI (i + 1)), .int (nI w1), .int (tAz t i), .int (bI ((pFlags (t.drop i0) (false, false, false, false)).1).1), .int (bI ((pFlags (t.drop i0) (false, false, false, false)).1).2.1), .int (bI ((pFlags (t.drop i0) (false, false, false, false)).1).2.2.1), .int (bI ((pFlags (t.drop i0) (false, false, false, false)).1).2.2.2), .ref (ad 58), .int x12, .long v]) := by rw [eb2]; exact va_up_self _ _ _
        suffices hj249 : W pg9 l ev9 (headSpec wsX4_readPlace ({ frames := 1, cells := 0, slots := 0, locals := 21 })).room s m ([.ref (ad 52)] : List Value).toArray below meth cd H locs 0 0 (MQ below (va_Qi (fun r c' => ∃ i kd, i ≤ t.length ∧ t.drop i = (pPlace (t.drop i0)).2.2 ∧ c' 52 = rO ad x0 x1 x2 x3 x4 (nI (i + 1)) (nI (pPlace (t.drop i0)).2.1) kd (bI ((pPlace (t.drop i0)).1).1) (bI ((pPlace (t.drop i0)).1).2.1) (bI ((pPlace (t.drop i0)).1).2.2.1) (bI ((pPlace (t.drop i0)).1).2.2.2) x12 v ∧ (∀ j, j ≠ 52 → c' j = c j) ∧ (i < t.length → kd = sB (t.getD i 0)) ∧ ((i < t.length ∧ isKd (t.getD i 0) = true ∧ r = 1) ∨ (¬ (i < t.length ∧ isKd (t.getD i 0) = true) ∧ r = 0))) (mW D n ad) (mA n ad s.heap.size)) ([.ref (ad 52)] : List Value).toArray s 0 0 (mA n ad s.heap.size)) (F0 m 249 ls [.int (bI (kdB (tAz t i)))]) by
          refine lv_aload_n hx hb dX4_readPlace_181 rfl (lv_at hl 0 rfl) ?_
          refine mx_get (ci := 4) (v := .int (tAz t i)) (C := RX4) (T := TX4) (N := 20) hx hb hts inX4 hown hK hP (by omega : 52 < n) hcb2 rfl 12 (by decide) (hts _ wm_280) (fun _ h9 => h9) rfl dX4_readPlace_182 ?_
          refine lv_bipush (v := 100) hx hb dX4_readPlace_185 (by decide) ?_
          refine lv_icmp_eq (tgt := 244) hx hb dX4_readPlace_187 (by decide) (fun hq0 => ?_) (fun hq0 => ?_)
          · skip
            refine lv_iconst (v := 1) hx hb dX4_readPlace_244 (by decide) ?_
            refine lv_goto (tgt := 249) hx hb dX4_readPlace_245 (by decide) ?_
            refine mx_i (bI (kdB (tAz t i))) (by rw [show kdB (tAz t i) = true from decide_eq_true (Or.inl hq0)]; rfl) ?_
            exact hj249
          · skip
            refine lv_aload_n hx hb dX4_readPlace_190 rfl (lv_at hl 0 rfl) ?_
            refine mx_get (ci := 4) (v := .int (tAz t i)) (C := RX4) (T := TX4) (N := 20) hx hb hts inX4 hown hK hP (by omega : 52 < n) hcb2 rfl 12 (by decide) (hts _ wm_280) (fun _ h9 => h9) rfl dX4_readPlace_191 ?_
            refine lv_bipush (v := 120) hx hb dX4_readPlace_194 (by decide) ?_
            refine lv_icmp_eq (tgt := 244) hx hb dX4_readPlace_196 (by decide) (fun hq1 => ?_) (fun hq1 => ?_)
            · skip
              refine lv_iconst (v := 1) hx hb dX4_readPlace_244 (by decide) ?_
              refine lv_goto (tgt := 249) hx hb dX4_readPlace_245 (by decide) ?_
              refine mx_i (bI (kdB (tAz t i))) (by rw [show kdB (tAz t i) = true from decide_eq_true (Or.inr (Or.inl hq1))]; rfl) ?_
              exact hj249
            · skip
              refine lv_aload_n hx hb dX4_readPlace_199 rfl (lv_at hl 0 rfl) ?_
              refine mx_get (ci := 4) (v := .int (tAz t i)) (C := RX4) (T := TX4) (N := 20) hx hb hts inX4 hown hK hP (by omega : 52 < n) hcb2 rfl 12 (by decide) (hts _ wm_280) (fun _ h9 => h9) rfl dX4_readPlace_200 ?_
              refine lv_bipush (v := 88) hx hb dX4_readPlace_203 (by decide) ?_
              refine lv_icmp_eq (tgt := 244) hx hb dX4_readPlace_205 (by decide) (fun hq2 => ?_) (fun hq2 => ?_)
              · skip
                refine lv_iconst (v := 1) hx hb dX4_readPlace_244 (by decide) ?_
                refine lv_goto (tgt := 249) hx hb dX4_readPlace_245 (by decide) ?_
                refine mx_i (bI (kdB (tAz t i))) (by rw [show kdB (tAz t i) = true from decide_eq_true (Or.inr (Or.inr (Or.inl hq2)))]; rfl) ?_
                exact hj249
              · skip
                refine lv_aload_n hx hb dX4_readPlace_208 rfl (lv_at hl 0 rfl) ?_
                refine mx_get (ci := 4) (v := .int (tAz t i)) (C := RX4) (T := TX4) (N := 20) hx hb hts inX4 hown hK hP (by omega : 52 < n) hcb2 rfl 12 (by decide) (hts _ wm_280) (fun _ h9 => h9) rfl dX4_readPlace_209 ?_
                refine lv_bipush (v := 111) hx hb dX4_readPlace_212 (by decide) ?_
                refine lv_icmp_eq (tgt := 244) hx hb dX4_readPlace_214 (by decide) (fun hq3 => ?_) (fun hq3 => ?_)
                · skip
                  refine lv_iconst (v := 1) hx hb dX4_readPlace_244 (by decide) ?_
                  refine lv_goto (tgt := 249) hx hb dX4_readPlace_245 (by decide) ?_
                  refine mx_i (bI (kdB (tAz t i))) (by rw [show kdB (tAz t i) = true from decide_eq_true (Or.inr (Or.inr (Or.inr (Or.inl hq3))))]; rfl) ?_
                  exact hj249
                · skip
                  refine lv_aload_n hx hb dX4_readPlace_217 rfl (lv_at hl 0 rfl) ?_
                  refine mx_get (ci := 4) (v := .int (tAz t i)) (C := RX4) (T := TX4) (N := 20) hx hb hts inX4 hown hK hP (by omega : 52 < n) hcb2 rfl 12 (by decide) (hts _ wm_280) (fun _ h9 => h9) rfl dX4_readPlace_218 ?_
                  refine lv_bipush (v := 99) hx hb dX4_readPlace_221 (by decide) ?_
                  refine lv_icmp_eq (tgt := 244) hx hb dX4_readPlace_223 (by decide) (fun hq4 => ?_) (fun hq4 => ?_)
                  · skip
                    refine lv_iconst (v := 1) hx hb dX4_readPlace_244 (by decide) ?_
                    refine lv_goto (tgt := 249) hx hb dX4_readPlace_245 (by decide) ?_
                    refine mx_i (bI (kdB (tAz t i))) (by rw [show kdB (tAz t i) = true from decide_eq_true (Or.inr (Or.inr (Or.inr (Or.inr (Or.inl hq4)))))]; rfl) ?_
                    exact hj249
                  · skip
                    refine lv_aload_n hx hb dX4_readPlace_226 rfl (lv_at hl 0 rfl) ?_
                    refine mx_get (ci := 4) (v := .int (tAz t i)) (C := RX4) (T := TX4) (N := 20) hx hb hts inX4 hown hK hP (by omega : 52 < n) hcb2 rfl 12 (by decide) (hts _ wm_280) (fun _ h9 => h9) rfl dX4_readPlace_227 ?_
                    refine lv_bipush (v := 115) hx hb dX4_readPlace_230 (by decide) ?_
                    refine lv_icmp_eq (tgt := 244) hx hb dX4_readPlace_232 (by decide) (fun hq5 => ?_) (fun hq5 => ?_)
                    · skip
                      refine lv_iconst (v := 1) hx hb dX4_readPlace_244 (by decide) ?_
                      refine lv_goto (tgt := 249) hx hb dX4_readPlace_245 (by decide) ?_
                      refine mx_i (bI (kdB (tAz t i))) (by rw [show kdB (tAz t i) = true from decide_eq_true (Or.inr (Or.inr (Or.inr (Or.inr (Or.inr (Or.inl hq5))))))]; rfl) ?_
                      exact hj249
                    · skip
                      refine lv_aload_n hx hb dX4_readPlace_235 rfl (lv_at hl 0 rfl) ?_
                      refine mx_get (ci := 4) (v := .int (tAz t i)) (C := RX4) (T := TX4) (N := 20) hx hb hts inX4 hown hK hP (by omega : 52 < n) hcb2 rfl 12 (by decide) (hts _ wm_280) (fun _ h9 => h9) rfl dX4_readPlace_236 ?_
                      refine lv_bipush (v := 37) hx hb dX4_readPlace_239 (by decide) ?_
                      refine lv_icmp_ne (tgt := 248) hx hb dX4_readPlace_241 (by decide) (fun hq6 => ?_) (fun hq6 => ?_)
                      · skip
                        refine lv_iconst (v := 0) hx hb dX4_readPlace_248 (by decide) ?_
                        refine mx_i (bI (kdB (tAz t i))) (by rw [show kdB (tAz t i) = false from decide_eq_false (fun h => h.elim hq0 (fun h => h.elim hq1 (fun h => h.elim hq2 (fun h => h.elim hq3 (fun h => h.elim hq4 (fun h => h.elim hq5 (fun h => hq6 h)))))))]; rfl) ?_
                        exact hj249
                      · skip
                        refine lv_iconst (v := 1) hx hb dX4_readPlace_244 (by decide) ?_
                        refine lv_goto (tgt := 249) hx hb dX4_readPlace_245 (by decide) ?_
                        refine mx_i (bI (kdB (tAz t i))) (by rw [show kdB (tAz t i) = true from decide_eq_true (Or.inr (Or.inr (Or.inr (Or.inr (Or.inr (Or.inr (hq6)))))))]; rfl) ?_
                        exact hj249
        have hkk := kz_cases (i := i) hby
        have hq2 : ∀ r : Int32, r = bI (kdB (tAz t i)) → ∃ i kd, i ≤ t.length ∧ t.drop i = (pPlace (t.drop i0)).2.2 ∧ b2 52 = rO ad x0 x1 x2 x3 x4 (nI (i + 1)) (nI (pPlace (t.drop i0)).2.1) kd (bI ((pPlace (t.drop i0)).1).1) (bI ((pPlace (t.drop i0)).1).2.1) (bI ((pPlace (t.drop i0)).1).2.2.1) (bI ((pPlace (t.drop i0)).1).2.2.2) x12 v ∧ (∀ j, j ≠ 52 → b2 j = c j) ∧ (i < t.length → kd = sB (t.getD i 0)) ∧ ((i < t.length ∧ isKd (t.getD i 0) = true ∧ r = 1) ∨ (¬ (i < t.length ∧ isKd (t.getD i 0) = true) ∧ r = 0)) := by
          intro r hr9
          refine ⟨i, tAz t i, hi, hdr.1, by rw [← hdr.2]; exact hcb2, fun j h => (hsb2 j h).trans ((hsb1 j h).trans (hs2 j h)), fun h => if_pos h, ?_⟩
          rw [hr9]
          cases hkv : kdB (tAz t i)
          · exact Or.inr ⟨fun h => absurd (hkk.mpr h) (by rw [hkv]; decide), rfl⟩
          · exact Or.inl ⟨(hkk.mp hkv).1, (hkk.mp hkv).2, rfl⟩
        generalize kdB (tAz t i) = gg at hq2 ⊢
        cases gg
        · skip
          exact mx_zret hx hb hr hlocks rfl hP hS (hq2 _ rfl) dX4_readPlace_249
        · skip
          exact mx_zret hx hb hr hlocks rfl hP hS (hq2 _ rfl) dX4_readPlace_249
      · skip
        have hlt : i < t.length := by have := (not_congr (nI_leI (a := t.length) (b := i) (by omega) (by omega))).mp (by rw [← hx1]; exact hc1); omega
        have hb8 : t.getD i 0 < 256 := hby _ (gD_mem hlt)
        have hgi : g i = sB (t.getD i 0) := by have h9 := hg i hlt; rw [Nat.zero_add] at h9; exact h9
        refine lv_aload_n hx hb dX4_readPlace_56 rfl (lv_at hl 0 rfl) ?_
        refine mx_get (ci := 4) (v := .ref (ad 54)) (C := RX4) (T := TX4) (N := 20) hx hb hts inX4 hown hK hP (by omega : 52 < n) hO2 rfl 1 (by decide) (hts _ wm_269) (fun _ h9 => h9) rfl dX4_readPlace_57 ?_
        refine lv_aload_n hx hb dX4_readPlace_60 rfl (lv_at hl 0 rfl) ?_
        refine mx_get (ci := 4) (v := .int (nI i)) (C := RX4) (T := TX4) (N := 20) hx hb hts inX4 hown hK hP (by omega : 52 < n) hO2 rfl 10 (by decide) (hts _ wm_278) (fun _ h9 => h9) rfl dX4_readPlace_61 ?_
        refine mx_bald hx hb hK hP (by omega : 54 < n) 2 h54 rfl (vp_in_nI (by omega) (by omega)) dX4_readPlace_64 ?_
        refine mx_i (sB (t.getD i 0)) (by rw [nI_clamp (by omega)]; exact hgi) ?_
        refine lv_bipush (v := 48) hx hb dX4_readPlace_65 (by decide) ?_
        refine lv_icmp_lt (tgt := 143) hx hb dX4_readPlace_67 (by decide) (fun hc2 => ?_) (fun hc2 => ?_)
        · skip
          have hnd : isDg (t.getD i 0) = false := sd_f hb8 (fun h => absurd h.1 (Int32.not_le.mpr hc2))
          refine lv_aload_n hx hb dX4_readPlace_143 rfl (lv_at hl 0 rfl) ?_
          have hdr : t.drop i = (pPlace (t.drop i0)).2.2 ∧ w1 = (pPlace (t.drop i0)).2.1 := by
            have h9 : (pPlace (t.drop i0)).2 = pWid (t.drop i) w1 := heq
            rw [h9, show pWid (t.drop i) w1 = (w1, t.drop i) from by rw [dr_cons hlt]; exact if_neg (by rw [hnd]; decide)]
            exact ⟨rfl, rfl⟩
          suffices hj168 : W pg9 l ev9 (headSpec wsX4_readPlace ({ frames := 1, cells := 0, slots := 0, locals := 21 })).room s m ([.ref (ad 52)] : List Value).toArray below meth cd H locs 0 0 (MQ below (va_Qi (fun r c' => ∃ i kd, i ≤ t.length ∧ t.drop i = (pPlace (t.drop i0)).2.2 ∧ c' 52 = rO ad x0 x1 x2 x3 x4 (nI (i + 1)) (nI (pPlace (t.drop i0)).2.1) kd (bI ((pPlace (t.drop i0)).1).1) (bI ((pPlace (t.drop i0)).1).2.1) (bI ((pPlace (t.drop i0)).1).2.2.1) (bI ((pPlace (t.drop i0)).1).2.2.2) x12 v ∧ (∀ j, j ≠ 52 → c' j = c j) ∧ (i < t.length → kd = sB (t.getD i 0)) ∧ ((i < t.length ∧ isKd (t.getD i 0) = true ∧ r = 1) ∨ (¬ (i < t.length ∧ isKd (t.getD i 0) = true) ∧ r = 0))) (mW D n ad) (mA n ad s.heap.size)) ([.ref (ad 52)] : List Value).toArray s 0 0 (mA n ad s.heap.size)) (F0 m 168 ls [.int (tAz t i), .ref (ad 52)]) by
            refine lv_aload_n hx hb dX4_readPlace_144 rfl (lv_at hl 0 rfl) ?_
            refine mx_get (ci := 4) (v := .int (nI i)) (C := RX4) (T := TX4) (N := 20) hx hb hts inX4 hown hK hP (by omega : 52 < n) hO2 rfl 10 (by decide) (hts _ wm_278) (fun _ h9 => h9) rfl dX4_readPlace_145 ?_
            refine lv_aload_n hx hb dX4_readPlace_148 rfl (lv_at hl 0 rfl) ?_
            refine mx_get (ci := 4) (v := .int x1) (C := RX4) (T := TX4) (N := 20) hx hb hts inX4 hown hK hP (by omega : 52 < n) hO2 rfl 5 (by decide) (hts _ wm_273) (fun _ h9 => h9) rfl dX4_readPlace_149 ?_
            refine lv_icmp_ge (tgt := 167) hx hb dX4_readPlace_152 (by decide) (fun hk1 => ?_) (fun hk1 => ?_)
            · skip
              refine lv_iconst (v := 0) hx hb dX4_readPlace_167 (by decide) ?_
              refine mx_i (tAz t i) (by rw [show tAz t i = 0 from if_neg (by have := (nI_leI (a := t.length) (b := i) (by omega) (by omega)).mp (by rw [← hx1]; exact hk1); omega)]) ?_
              exact hj168
            · skip
              have hlk : i < t.length := by have := (not_congr (nI_leI (a := t.length) (b := i) (by omega) (by omega))).mp (by rw [← hx1]; exact hk1); omega
              refine lv_aload_n hx hb dX4_readPlace_155 rfl (lv_at hl 0 rfl) ?_
              refine mx_get (ci := 4) (v := .ref (ad 54)) (C := RX4) (T := TX4) (N := 20) hx hb hts inX4 hown hK hP (by omega : 52 < n) hO2 rfl 1 (by decide) (hts _ wm_269) (fun _ h9 => h9) rfl dX4_readPlace_156 ?_
              refine lv_aload_n hx hb dX4_readPlace_159 rfl (lv_at hl 0 rfl) ?_
              refine mx_get (ci := 4) (v := .int (nI i)) (C := RX4) (T := TX4) (N := 20) hx hb hts inX4 hown hK hP (by omega : 52 < n) hO2 rfl 10 (by decide) (hts _ wm_278) (fun _ h9 => h9) rfl dX4_readPlace_160 ?_
              refine mx_bald hx hb hK hP (by omega : 54 < n) 2 h54 rfl (vp_in_nI (by omega) (by omega)) dX4_readPlace_163 ?_
              refine mx_i (tAz t i) (by rw [nI_clamp (by omega), show tAz t i = sB (t.getD i 0) from if_pos hlk]; have h9 := hg i hlk; rw [Nat.zero_add] at h9; exact h9) ?_
              refine lv_goto (tgt := 168) hx hb dX4_readPlace_164 (by decide) ?_
              refine mx_i (tAz t i) (rfl) ?_
              exact hj168
          refine mx_put (ci := 4) (v := .int (tAz t i)) (ty := .int) (C := RX4) (T := TX4) (N := 20) hx hb hts inX4 tyX4 tyX4_ok nmX4 hown hK hP hD hS (by omega : 52 < n) hO2 rfl 12 (by decide) (hts _ wm_280) (fun _ h9 => h9) rfl (by decide +kernel) rfl rfl (Nat.le_of_ble_eq_true rfl) dX4_readPlace_168 (fun H locs hP hS => ?_)
          obtain ⟨b1, eb1⟩ : ∃ z : Nat → va_E, z = va_up c2 52 (.inr (4, [.ref (ad 53), .ref (ad 54), .ref (ad 55), .ref (ad 56), .int x0, .int x1, .int x2, .int x3, .int x4, .ref (ad 57), .int (nI i), .int (nI w1), .int (tAz t i), .int (bI ((pFlags (t.drop i0) (false, false, false, false)).1).1), .int (bI ((pFlags (t.drop i0) (false, false, false, false)).1).2.1), .int (bI ((pFlags (t.drop i0) (false, false, false, false)).1).2.2.1), .int (bI ((pFlags (t.drop i0) (false, false, false, false)).1).2.2.2), .ref (ad 58), .int x12, .long v])) := ⟨_, rfl⟩
          have hP : va_P D vwCl (mw n ad b1) H := by rw [eb1]; exact hP
          have hsb1 : ∀ j, j ≠ 52 → b1 j = c2 j := fun j h => by rw [eb1]; exact va_up_ne _ _ h
          have hcb1 : b1 52 = .inr (4, [.ref (ad 53), .ref (ad 54), .ref (ad 55), .ref (ad 56), .int x0, .int x1, .int x2, .int x3, .int x4, .ref (ad 57), .int (nI i), .int (nI w1), .int (tAz t i), .int (bI ((pFlags (t.drop i0) (false, false, false, false)).1).1), .int (bI ((pFlags (t.drop i0) (false, false, false, false)).1).2.1), .int (bI ((pFlags (t.drop i0) (false, false, false, false)).1).2.2.1), .int (bI ((pFlags (t.drop i0) (false, false, false, false)).1).2.2.2), .ref (ad 58), .int x12, .long v]) := by rw [eb1]; exact va_up_self _ _ _
          refine lv_aload_n hx hb dX4_readPlace_171 rfl (lv_at hl 0 rfl) ?_
          refine lv_dup hx hb dX4_readPlace_172 rfl ?_
          refine mx_get (ci := 4) (v := .int (nI i)) (C := RX4) (T := TX4) (N := 20) hx hb hts inX4 hown hK hP (by omega : 52 < n) hcb1 rfl 10 (by decide) (hts _ wm_278) (fun _ h9 => h9) rfl dX4_readPlace_173 ?_
          refine lv_iconst (v := 1) hx hb dX4_readPlace_176 (by decide) ?_
          refine lv_iadd hx hb dX4_readPlace_177 ?_
          refine mx_i (nI (i + 1)) (nI_1 i) ?_
          refine mx_put (ci := 4) (v := .int (nI (i + 1))) (ty := .int) (C := RX4) (T := TX4) (N := 20) hx hb hts inX4 tyX4 tyX4_ok nmX4 hown hK hP hD hS (by omega : 52 < n) hcb1 rfl 10 (by decide) (hts _ wm_278) (fun _ h9 => h9) rfl (by decide +kernel) rfl rfl (Nat.le_of_ble_eq_true rfl) dX4_readPlace_178 (fun H locs hP hS => ?_)
          obtain ⟨b2, eb2⟩ : ∃ z : Nat → va_E, z = va_up b1 52 (.inr (4, [.ref (ad 53), .ref (ad 54), .ref (ad 55), .ref (ad 56), .int x0, .int x1, .int x2, .int x3, .int x4, .ref (ad 57), .int (nI (i + 1)), .int (nI w1), .int (tAz t i), .int (bI ((pFlags (t.drop i0) (false, false, false, false)).1).1), .int (bI ((pFlags (t.drop i0) (false, false, false, false)).1).2.1), .int (bI ((pFlags (t.drop i0) (false, false, false, false)).1).2.2.1), .int (bI ((pFlags (t.drop i0) (false, false, false, false)).1).2.2.2), .ref (ad 58), .int x12, .long v])) := ⟨_, rfl⟩
          have hP : va_P D vwCl (mw n ad b2) H := by rw [eb2]; exact hP
          have hsb2 : ∀ j, j ≠ 52 → b2 j = b1 j := fun j h => by rw [eb2]; exact va_up_ne _ _ h
          have hcb2 : b2 52 = .inr (4, [.ref (ad 53), .ref (ad 54), .ref (ad 55), .ref (ad 56), .int x0, .int x1, .int x2, .int x3, .int x4, .ref (ad 57), .int (nI (i + 1)), .int (nI w1), .int (tAz t i), .int (bI ((pFlags (t.drop i0) (false, false, false, false)).1).1), .int (bI ((pFlags (t.drop i0) (false, false, false, false)).1).2.1), .int (bI ((pFlags (t.drop i0) (false, false, false, false)).1).2.2.1), .int (bI ((pFlags (t.drop i0) (false, false, false, false)).1).2.2.2), .ref (ad 58), .int x12, .long v]) := by rw [eb2]; exact va_up_self _ _ _
          suffices hj249 : W pg9 l ev9 (headSpec wsX4_readPlace ({ frames := 1, cells := 0, slots := 0, locals := 21 })).room s m ([.ref (ad 52)] : List Value).toArray below meth cd H locs 0 0 (MQ below (va_Qi (fun r c' => ∃ i kd, i ≤ t.length ∧ t.drop i = (pPlace (t.drop i0)).2.2 ∧ c' 52 = rO ad x0 x1 x2 x3 x4 (nI (i + 1)) (nI (pPlace (t.drop i0)).2.1) kd (bI ((pPlace (t.drop i0)).1).1) (bI ((pPlace (t.drop i0)).1).2.1) (bI ((pPlace (t.drop i0)).1).2.2.1) (bI ((pPlace (t.drop i0)).1).2.2.2) x12 v ∧ (∀ j, j ≠ 52 → c' j = c j) ∧ (i < t.length → kd = sB (t.getD i 0)) ∧ ((i < t.length ∧ isKd (t.getD i 0) = true ∧ r = 1) ∨ (¬ (i < t.length ∧ isKd (t.getD i 0) = true) ∧ r = 0))) (mW D n ad) (mA n ad s.heap.size)) ([.ref (ad 52)] : List Value).toArray s 0 0 (mA n ad s.heap.size)) (F0 m 249 ls [.int (bI (kdB (tAz t i)))]) by
            refine lv_aload_n hx hb dX4_readPlace_181 rfl (lv_at hl 0 rfl) ?_
            refine mx_get (ci := 4) (v := .int (tAz t i)) (C := RX4) (T := TX4) (N := 20) hx hb hts inX4 hown hK hP (by omega : 52 < n) hcb2 rfl 12 (by decide) (hts _ wm_280) (fun _ h9 => h9) rfl dX4_readPlace_182 ?_
            refine lv_bipush (v := 100) hx hb dX4_readPlace_185 (by decide) ?_
            refine lv_icmp_eq (tgt := 244) hx hb dX4_readPlace_187 (by decide) (fun hq0 => ?_) (fun hq0 => ?_)
            · skip
              refine lv_iconst (v := 1) hx hb dX4_readPlace_244 (by decide) ?_
              refine lv_goto (tgt := 249) hx hb dX4_readPlace_245 (by decide) ?_
              refine mx_i (bI (kdB (tAz t i))) (by rw [show kdB (tAz t i) = true from decide_eq_true (Or.inl hq0)]; rfl) ?_
              exact hj249
            · skip
              refine lv_aload_n hx hb dX4_readPlace_190 rfl (lv_at hl 0 rfl) ?_
              refine mx_get (ci := 4) (v := .int (tAz t i)) (C := RX4) (T := TX4) (N := 20) hx hb hts inX4 hown hK hP (by omega : 52 < n) hcb2 rfl 12 (by decide) (hts _ wm_280) (fun _ h9 => h9) rfl dX4_readPlace_191 ?_
              refine lv_bipush (v := 120) hx hb dX4_readPlace_194 (by decide) ?_
              refine lv_icmp_eq (tgt := 244) hx hb dX4_readPlace_196 (by decide) (fun hq1 => ?_) (fun hq1 => ?_)
              · skip
                refine lv_iconst (v := 1) hx hb dX4_readPlace_244 (by decide) ?_
                refine lv_goto (tgt := 249) hx hb dX4_readPlace_245 (by decide) ?_
                refine mx_i (bI (kdB (tAz t i))) (by rw [show kdB (tAz t i) = true from decide_eq_true (Or.inr (Or.inl hq1))]; rfl) ?_
                exact hj249
              · skip
                refine lv_aload_n hx hb dX4_readPlace_199 rfl (lv_at hl 0 rfl) ?_
                refine mx_get (ci := 4) (v := .int (tAz t i)) (C := RX4) (T := TX4) (N := 20) hx hb hts inX4 hown hK hP (by omega : 52 < n) hcb2 rfl 12 (by decide) (hts _ wm_280) (fun _ h9 => h9) rfl dX4_readPlace_200 ?_
                refine lv_bipush (v := 88) hx hb dX4_readPlace_203 (by decide) ?_
                refine lv_icmp_eq (tgt := 244) hx hb dX4_readPlace_205 (by decide) (fun hq2 => ?_) (fun hq2 => ?_)
                · skip
                  refine lv_iconst (v := 1) hx hb dX4_readPlace_244 (by decide) ?_
                  refine lv_goto (tgt := 249) hx hb dX4_readPlace_245 (by decide) ?_
                  refine mx_i (bI (kdB (tAz t i))) (by rw [show kdB (tAz t i) = true from decide_eq_true (Or.inr (Or.inr (Or.inl hq2)))]; rfl) ?_
                  exact hj249
                · skip
                  refine lv_aload_n hx hb dX4_readPlace_208 rfl (lv_at hl 0 rfl) ?_
                  refine mx_get (ci := 4) (v := .int (tAz t i)) (C := RX4) (T := TX4) (N := 20) hx hb hts inX4 hown hK hP (by omega : 52 < n) hcb2 rfl 12 (by decide) (hts _ wm_280) (fun _ h9 => h9) rfl dX4_readPlace_209 ?_
                  refine lv_bipush (v := 111) hx hb dX4_readPlace_212 (by decide) ?_
                  refine lv_icmp_eq (tgt := 244) hx hb dX4_readPlace_214 (by decide) (fun hq3 => ?_) (fun hq3 => ?_)
                  · skip
                    refine lv_iconst (v := 1) hx hb dX4_readPlace_244 (by decide) ?_
                    refine lv_goto (tgt := 249) hx hb dX4_readPlace_245 (by decide) ?_
                    refine mx_i (bI (kdB (tAz t i))) (by rw [show kdB (tAz t i) = true from decide_eq_true (Or.inr (Or.inr (Or.inr (Or.inl hq3))))]; rfl) ?_
                    exact hj249
                  · skip
                    refine lv_aload_n hx hb dX4_readPlace_217 rfl (lv_at hl 0 rfl) ?_
                    refine mx_get (ci := 4) (v := .int (tAz t i)) (C := RX4) (T := TX4) (N := 20) hx hb hts inX4 hown hK hP (by omega : 52 < n) hcb2 rfl 12 (by decide) (hts _ wm_280) (fun _ h9 => h9) rfl dX4_readPlace_218 ?_
                    refine lv_bipush (v := 99) hx hb dX4_readPlace_221 (by decide) ?_
                    refine lv_icmp_eq (tgt := 244) hx hb dX4_readPlace_223 (by decide) (fun hq4 => ?_) (fun hq4 => ?_)
                    · skip
                      refine lv_iconst (v := 1) hx hb dX4_readPlace_244 (by decide) ?_
                      refine lv_goto (tgt := 249) hx hb dX4_readPlace_245 (by decide) ?_
                      refine mx_i (bI (kdB (tAz t i))) (by rw [show kdB (tAz t i) = true from decide_eq_true (Or.inr (Or.inr (Or.inr (Or.inr (Or.inl hq4)))))]; rfl) ?_
                      exact hj249
                    · skip
                      refine lv_aload_n hx hb dX4_readPlace_226 rfl (lv_at hl 0 rfl) ?_
                      refine mx_get (ci := 4) (v := .int (tAz t i)) (C := RX4) (T := TX4) (N := 20) hx hb hts inX4 hown hK hP (by omega : 52 < n) hcb2 rfl 12 (by decide) (hts _ wm_280) (fun _ h9 => h9) rfl dX4_readPlace_227 ?_
                      refine lv_bipush (v := 115) hx hb dX4_readPlace_230 (by decide) ?_
                      refine lv_icmp_eq (tgt := 244) hx hb dX4_readPlace_232 (by decide) (fun hq5 => ?_) (fun hq5 => ?_)
                      · skip
                        refine lv_iconst (v := 1) hx hb dX4_readPlace_244 (by decide) ?_
                        refine lv_goto (tgt := 249) hx hb dX4_readPlace_245 (by decide) ?_
                        refine mx_i (bI (kdB (tAz t i))) (by rw [show kdB (tAz t i) = true from decide_eq_true (Or.inr (Or.inr (Or.inr (Or.inr (Or.inr (Or.inl hq5))))))]; rfl) ?_
                        exact hj249
                      · skip
                        refine lv_aload_n hx hb dX4_readPlace_235 rfl (lv_at hl 0 rfl) ?_
                        refine mx_get (ci := 4) (v := .int (tAz t i)) (C := RX4) (T := TX4) (N := 20) hx hb hts inX4 hown hK hP (by omega : 52 < n) hcb2 rfl 12 (by decide) (hts _ wm_280) (fun _ h9 => h9) rfl dX4_readPlace_236 ?_
                        refine lv_bipush (v := 37) hx hb dX4_readPlace_239 (by decide) ?_
                        refine lv_icmp_ne (tgt := 248) hx hb dX4_readPlace_241 (by decide) (fun hq6 => ?_) (fun hq6 => ?_)
                        · skip
                          refine lv_iconst (v := 0) hx hb dX4_readPlace_248 (by decide) ?_
                          refine mx_i (bI (kdB (tAz t i))) (by rw [show kdB (tAz t i) = false from decide_eq_false (fun h => h.elim hq0 (fun h => h.elim hq1 (fun h => h.elim hq2 (fun h => h.elim hq3 (fun h => h.elim hq4 (fun h => h.elim hq5 (fun h => hq6 h)))))))]; rfl) ?_
                          exact hj249
                        · skip
                          refine lv_iconst (v := 1) hx hb dX4_readPlace_244 (by decide) ?_
                          refine lv_goto (tgt := 249) hx hb dX4_readPlace_245 (by decide) ?_
                          refine mx_i (bI (kdB (tAz t i))) (by rw [show kdB (tAz t i) = true from decide_eq_true (Or.inr (Or.inr (Or.inr (Or.inr (Or.inr (Or.inr (hq6)))))))]; rfl) ?_
                          exact hj249
          have hkk := kz_cases (i := i) hby
          have hq2 : ∀ r : Int32, r = bI (kdB (tAz t i)) → ∃ i kd, i ≤ t.length ∧ t.drop i = (pPlace (t.drop i0)).2.2 ∧ b2 52 = rO ad x0 x1 x2 x3 x4 (nI (i + 1)) (nI (pPlace (t.drop i0)).2.1) kd (bI ((pPlace (t.drop i0)).1).1) (bI ((pPlace (t.drop i0)).1).2.1) (bI ((pPlace (t.drop i0)).1).2.2.1) (bI ((pPlace (t.drop i0)).1).2.2.2) x12 v ∧ (∀ j, j ≠ 52 → b2 j = c j) ∧ (i < t.length → kd = sB (t.getD i 0)) ∧ ((i < t.length ∧ isKd (t.getD i 0) = true ∧ r = 1) ∨ (¬ (i < t.length ∧ isKd (t.getD i 0) = true) ∧ r = 0)) := by
            intro r hr9
            refine ⟨i, tAz t i, hi, hdr.1, by rw [← hdr.2]; exact hcb2, fun j h => (hsb2 j h).trans ((hsb1 j h).trans (hs2 j h)), fun h => if_pos h, ?_⟩
            rw [hr9]
            cases hkv : kdB (tAz t i)
            · exact Or.inr ⟨fun h => absurd (hkk.mpr h) (by rw [hkv]; decide), rfl⟩
            · exact Or.inl ⟨(hkk.mp hkv).1, (hkk.mp hkv).2, rfl⟩
          generalize kdB (tAz t i) = gg at hq2 ⊢
          cases gg
          · skip
            exact mx_zret hx hb hr hlocks rfl hP hS (hq2 _ rfl) dX4_readPlace_249
          · skip
            exact mx_zret hx hb hr hlocks rfl hP hS (hq2 _ rfl) dX4_readPlace_249
        · skip
          refine lv_aload_n hx hb dX4_readPlace_70 rfl (lv_at hl 0 rfl) ?_
          refine mx_get (ci := 4) (v := .ref (ad 54)) (C := RX4) (T := TX4) (N := 20) hx hb hts inX4 hown hK hP (by omega : 52 < n) hO2 rfl 1 (by decide) (hts _ wm_269) (fun _ h9 => h9) rfl dX4_readPlace_71 ?_
          refine lv_aload_n hx hb dX4_readPlace_74 rfl (lv_at hl 0 rfl) ?_
          refine mx_get (ci := 4) (v := .int (nI i)) (C := RX4) (T := TX4) (N := 20) hx hb hts inX4 hown hK hP (by omega : 52 < n) hO2 rfl 10 (by decide) (hts _ wm_278) (fun _ h9 => h9) rfl dX4_readPlace_75 ?_
          refine mx_bald hx hb hK hP (by omega : 54 < n) 2 h54 rfl (vp_in_nI (by omega) (by omega)) dX4_readPlace_78 ?_
          refine mx_i (sB (t.getD i 0)) (by rw [nI_clamp (by omega)]; exact hgi) ?_
          refine lv_bipush (v := 57) hx hb dX4_readPlace_79 (by decide) ?_
          refine lv_icmp_gt (tgt := 143) hx hb dX4_readPlace_81 (by decide) (fun hc3 => ?_) (fun hc3 => ?_)
          · skip
            have hnd : isDg (t.getD i 0) = false := sd_f hb8 (fun h => absurd h.2 (Int32.not_le.mpr hc3))
            refine lv_aload_n hx hb dX4_readPlace_143 rfl (lv_at hl 0 rfl) ?_
            have hdr : t.drop i = (pPlace (t.drop i0)).2.2 ∧ w1 = (pPlace (t.drop i0)).2.1 := by
              have h9 : (pPlace (t.drop i0)).2 = pWid (t.drop i) w1 := heq
              rw [h9, show pWid (t.drop i) w1 = (w1, t.drop i) from by rw [dr_cons hlt]; exact if_neg (by rw [hnd]; decide)]
              exact ⟨rfl, rfl⟩
            suffices hj168 : W pg9 l ev9 (headSpec wsX4_readPlace ({ frames := 1, cells := 0, slots := 0, locals := 21 })).room s m ([.ref (ad 52)] : List Value).toArray below meth cd H locs 0 0 (MQ below (va_Qi (fun r c' => ∃ i kd, i ≤ t.length ∧ t.drop i = (pPlace (t.drop i0)).2.2 ∧ c' 52 = rO ad x0 x1 x2 x3 x4 (nI (i + 1)) (nI (pPlace (t.drop i0)).2.1) kd (bI ((pPlace (t.drop i0)).1).1) (bI ((pPlace (t.drop i0)).1).2.1) (bI ((pPlace (t.drop i0)).1).2.2.1) (bI ((pPlace (t.drop i0)).1).2.2.2) x12 v ∧ (∀ j, j ≠ 52 → c' j = c j) ∧ (i < t.length → kd = sB (t.getD i 0)) ∧ ((i < t.length ∧ isKd (t.getD i 0) = true ∧ r = 1) ∨ (¬ (i < t.length ∧ isKd (t.getD i 0) = true) ∧ r = 0))) (mW D n ad) (mA n ad s.heap.size)) ([.ref (ad 52)] : List Value).toArray s 0 0 (mA n ad s.heap.size)) (F0 m 168 ls [.int (tAz t i), .ref (ad 52)]) by
              refine lv_aload_n hx hb dX4_readPlace_144 rfl (lv_at hl 0 rfl) ?_
              refine mx_get (ci := 4) (v := .int (nI i)) (C := RX4) (T := TX4) (N := 20) hx hb hts inX4 hown hK hP (by omega : 52 < n) hO2 rfl 10 (by decide) (hts _ wm_278) (fun _ h9 => h9) rfl dX4_readPlace_145 ?_
              refine lv_aload_n hx hb dX4_readPlace_148 rfl (lv_at hl 0 rfl) ?_
              refine mx_get (ci := 4) (v := .int x1) (C := RX4) (T := TX4) (N := 20) hx hb hts inX4 hown hK hP (by omega : 52 < n) hO2 rfl 5 (by decide) (hts _ wm_273) (fun _ h9 => h9) rfl dX4_readPlace_149 ?_
              refine lv_icmp_ge (tgt := 167) hx hb dX4_readPlace_152 (by decide) (fun hk1 => ?_) (fun hk1 => ?_)
              · skip
                refine lv_iconst (v := 0) hx hb dX4_readPlace_167 (by decide) ?_
                refine mx_i (tAz t i) (by rw [show tAz t i = 0 from if_neg (by have := (nI_leI (a := t.length) (b := i) (by omega) (by omega)).mp (by rw [← hx1]; exact hk1); omega)]) ?_
                exact hj168
              · skip
                have hlk : i < t.length := by have := (not_congr (nI_leI (a := t.length) (b := i) (by omega) (by omega))).mp (by rw [← hx1]; exact hk1); omega
                refine lv_aload_n hx hb dX4_readPlace_155 rfl (lv_at hl 0 rfl) ?_
                refine mx_get (ci := 4) (v := .ref (ad 54)) (C := RX4) (T := TX4) (N := 20) hx hb hts inX4 hown hK hP (by omega : 52 < n) hO2 rfl 1 (by decide) (hts _ wm_269) (fun _ h9 => h9) rfl dX4_readPlace_156 ?_
                refine lv_aload_n hx hb dX4_readPlace_159 rfl (lv_at hl 0 rfl) ?_
                refine mx_get (ci := 4) (v := .int (nI i)) (C := RX4) (T := TX4) (N := 20) hx hb hts inX4 hown hK hP (by omega : 52 < n) hO2 rfl 10 (by decide) (hts _ wm_278) (fun _ h9 => h9) rfl dX4_readPlace_160 ?_
                refine mx_bald hx hb hK hP (by omega : 54 < n) 2 h54 rfl (vp_in_nI (by omega) (by omega)) dX4_readPlace_163 ?_
                refine mx_i (tAz t i) (by rw [nI_clamp (by omega), show tAz t i = sB (t.getD i 0) from if_pos hlk]; have h9 := hg i hlk; rw [Nat.zero_add] at h9; exact h9) ?_
                refine lv_goto (tgt := 168) hx hb dX4_readPlace_164 (by decide) ?_
                refine mx_i (tAz t i) (rfl) ?_
                exact hj168
            refine mx_put (ci := 4) (v := .int (tAz t i)) (ty := .int) (C := RX4) (T := TX4) (N := 20) hx hb hts inX4 tyX4 tyX4_ok nmX4 hown hK hP hD hS (by omega : 52 < n) hO2 rfl 12 (by decide) (hts _ wm_280) (fun _ h9 => h9) rfl (by decide +kernel) rfl rfl (Nat.le_of_ble_eq_true rfl) dX4_readPlace_168 (fun H locs hP hS => ?_)
            obtain ⟨b1, eb1⟩ : ∃ z : Nat → va_E, z = va_up c2 52 (.inr (4, [.ref (ad 53), .ref (ad 54), .ref (ad 55), .ref (ad 56), .int x0, .int x1, .int x2, .int x3, .int x4, .ref (ad 57), .int (nI i), .int (nI w1), .int (tAz t i), .int (bI ((pFlags (t.drop i0) (false, false, false, false)).1).1), .int (bI ((pFlags (t.drop i0) (false, false, false, false)).1).2.1), .int (bI ((pFlags (t.drop i0) (false, false, false, false)).1).2.2.1), .int (bI ((pFlags (t.drop i0) (false, false, false, false)).1).2.2.2), .ref (ad 58), .int x12, .long v])) := ⟨_, rfl⟩
            have hP : va_P D vwCl (mw n ad b1) H := by rw [eb1]; exact hP
            have hsb1 : ∀ j, j ≠ 52 → b1 j = c2 j := fun j h => by rw [eb1]; exact va_up_ne _ _ h
            have hcb1 : b1 52 = .inr (4, [.ref (ad 53), .ref (ad 54), .ref (ad 55), .ref (ad 56), .int x0, .int x1, .int x2, .int x3, .int x4, .ref (ad 57), .int (nI i), .int (nI w1), .int (tAz t i), .int (bI ((pFlags (t.drop i0) (false, false, false, false)).1).1), .int (bI ((pFlags (t.drop i0) (false, false, false, false)).1).2.1), .int (bI ((pFlags (t.drop i0) (false, false, false, false)).1).2.2.1), .int (bI ((pFlags (t.drop i0) (false, false, false, false)).1).2.2.2), .ref (ad 58), .int x12, .long v]) := by rw [eb1]; exact va_up_self _ _ _
            refine lv_aload_n hx hb dX4_readPlace_171 rfl (lv_at hl 0 rfl) ?_
            refine lv_dup hx hb dX4_readPlace_172 rfl ?_
            refine mx_get (ci := 4) (v := .int (nI i)) (C := RX4) (T := TX4) (N := 20) hx hb hts inX4 hown hK hP (by omega : 52 < n) hcb1 rfl 10 (by decide) (hts _ wm_278) (fun _ h9 => h9) rfl dX4_readPlace_173 ?_
            refine lv_iconst (v := 1) hx hb dX4_readPlace_176 (by decide) ?_
            refine lv_iadd hx hb dX4_readPlace_177 ?_
            refine mx_i (nI (i + 1)) (nI_1 i) ?_
            refine mx_put (ci := 4) (v := .int (nI (i + 1))) (ty := .int) (C := RX4) (T := TX4) (N := 20) hx hb hts inX4 tyX4 tyX4_ok nmX4 hown hK hP hD hS (by omega : 52 < n) hcb1 rfl 10 (by decide) (hts _ wm_278) (fun _ h9 => h9) rfl (by decide +kernel) rfl rfl (Nat.le_of_ble_eq_true rfl) dX4_readPlace_178 (fun H locs hP hS => ?_)
            obtain ⟨b2, eb2⟩ : ∃ z : Nat → va_E, z = va_up b1 52 (.inr (4, [.ref (ad 53), .ref (ad 54), .ref (ad 55), .ref (ad 56), .int x0, .int x1, .int x2, .int x3, .int x4, .ref (ad 57), .int (nI (i + 1)), .int (nI w1), .int (tAz t i), .int (bI ((pFlags (t.drop i0) (false, false, false, false)).1).1), .int (bI ((pFlags (t.drop i0) (false, false, false, false)).1).2.1), .int (bI ((pFlags (t.drop i0) (false, false, false, false)).1).2.2.1), .int (bI ((pFlags (t.drop i0) (false, false, false, false)).1).2.2.2), .ref (ad 58), .int x12, .long v])) := ⟨_, rfl⟩
            have hP : va_P D vwCl (mw n ad b2) H := by rw [eb2]; exact hP
            have hsb2 : ∀ j, j ≠ 52 → b2 j = b1 j := fun j h => by rw [eb2]; exact va_up_ne _ _ h
            have hcb2 : b2 52 = .inr (4, [.ref (ad 53), .ref (ad 54), .ref (ad 55), .ref (ad 56), .int x0, .int x1, .int x2, .int x3, .int x4, .ref (ad 57), .int (nI (i + 1)), .int (nI w1), .int (tAz t i), .int (bI ((pFlags (t.drop i0) (false, false, false, false)).1).1), .int (bI ((pFlags (t.drop i0) (false, false, false, false)).1).2.1), .int (bI ((pFlags (t.drop i0) (false, false, false, false)).1).2.2.1), .int (bI ((pFlags (t.drop i0) (false, false, false, false)).1).2.2.2), .ref (ad 58), .int x12, .long v]) := by rw [eb2]; exact va_up_self _ _ _
            suffices hj249 : W pg9 l ev9 (headSpec wsX4_readPlace ({ frames := 1, cells := 0, slots := 0, locals := 21 })).room s m ([.ref (ad 52)] : List Value).toArray below meth cd H locs 0 0 (MQ below (va_Qi (fun r c' => ∃ i kd, i ≤ t.length ∧ t.drop i = (pPlace (t.drop i0)).2.2 ∧ c' 52 = rO ad x0 x1 x2 x3 x4 (nI (i + 1)) (nI (pPlace (t.drop i0)).2.1) kd (bI ((pPlace (t.drop i0)).1).1) (bI ((pPlace (t.drop i0)).1).2.1) (bI ((pPlace (t.drop i0)).1).2.2.1) (bI ((pPlace (t.drop i0)).1).2.2.2) x12 v ∧ (∀ j, j ≠ 52 → c' j = c j) ∧ (i < t.length → kd = sB (t.getD i 0)) ∧ ((i < t.length ∧ isKd (t.getD i 0) = true ∧ r = 1) ∨ (¬ (i < t.length ∧ isKd (t.getD i 0) = true) ∧ r = 0))) (mW D n ad) (mA n ad s.heap.size)) ([.ref (ad 52)] : List Value).toArray s 0 0 (mA n ad s.heap.size)) (F0 m 249 ls [.int (bI (kdB (tAz t i)))]) by
              refine lv_aload_n hx hb dX4_readPlace_181 rfl (lv_at hl 0 rfl) ?_
              refine mx_get (ci := 4) (v := .int (tAz t i)) (C := RX4) (T := TX4) (N := 20) hx hb hts inX4 hown hK hP (by omega : 52 < n) hcb2 rfl 12 (by decide) (hts _ wm_280) (fun _ h9 => h9) rfl dX4_readPlace_182 ?_
              refine lv_bipush (v := 100) hx hb dX4_readPlace_185 (by decide) ?_
              refine lv_icmp_eq (tgt := 244) hx hb dX4_readPlace_187 (by decide) (fun hq0 => ?_) (fun hq0 => ?_)
              · skip
                refine lv_iconst (v := 1) hx hb dX4_readPlace_244 (by decide) ?_
                refine lv_goto (tgt := 249) hx hb dX4_readPlace_245 (by decide) ?_
                refine mx_i (bI (kdB (tAz t i))) (by rw [show kdB (tAz t i) = true from decide_eq_true (Or.inl hq0)]; rfl) ?_
                exact hj249
              · skip
                refine lv_aload_n hx hb dX4_readPlace_190 rfl (lv_at hl 0 rfl) ?_
                refine mx_get (ci := 4) (v := .int (tAz t i)) (C := RX4) (T := TX4) (N := 20) hx hb hts inX4 hown hK hP (by omega : 52 < n) hcb2 rfl 12 (by decide) (hts _ wm_280) (fun _ h9 => h9) rfl dX4_readPlace_191 ?_
                refine lv_bipush (v := 120) hx hb dX4_readPlace_194 (by decide) ?_
                refine lv_icmp_eq (tgt := 244) hx hb dX4_readPlace_196 (by decide) (fun hq1 => ?_) (fun hq1 => ?_)
                · skip
                  refine lv_iconst (v := 1) hx hb dX4_readPlace_244 (by decide) ?_
                  refine lv_goto (tgt := 249) hx hb dX4_readPlace_245 (by decide) ?_
                  refine mx_i (bI (kdB (tAz t i))) (by rw [show kdB (tAz t i) = true from decide_eq_true (Or.inr (Or.inl hq1))]; rfl) ?_
                  exact hj249
                · skip
                  refine lv_aload_n hx hb dX4_readPlace_199 rfl (lv_at hl 0 rfl) ?_
                  refine mx_get (ci := 4) (v := .int (tAz t i)) (C := RX4) (T := TX4) (N := 20) hx hb hts inX4 hown hK hP (by omega : 52 < n) hcb2 rfl 12 (by decide) (hts _ wm_280) (fun _ h9 => h9) rfl dX4_readPlace_200 ?_
                  refine lv_bipush (v := 88) hx hb dX4_readPlace_203 (by decide) ?_
                  refine lv_icmp_eq (tgt := 244) hx hb dX4_readPlace_205 (by decide) (fun hq2 => ?_) (fun hq2 => ?_)
                  · skip
                    refine lv_iconst (v := 1) hx hb dX4_readPlace_244 (by decide) ?_
                    refine lv_goto (tgt := 249) hx hb dX4_readPlace_245 (by decide) ?_
                    refine mx_i (bI (kdB (tAz t i))) (by rw [show kdB (tAz t i) = true from decide_eq_true (Or.inr (Or.inr (Or.inl hq2)))]; rfl) ?_
                    exact hj249
                  · skip
                    refine lv_aload_n hx hb dX4_readPlace_208 rfl (lv_at hl 0 rfl) ?_
                    refine mx_get (ci := 4) (v := .int (tAz t i)) (C := RX4) (T := TX4) (N := 20) hx hb hts inX4 hown hK hP (by omega : 52 < n) hcb2 rfl 12 (by decide) (hts _ wm_280) (fun _ h9 => h9) rfl dX4_readPlace_209 ?_
                    refine lv_bipush (v := 111) hx hb dX4_readPlace_212 (by decide) ?_
                    refine lv_icmp_eq (tgt := 244) hx hb dX4_readPlace_214 (by decide) (fun hq3 => ?_) (fun hq3 => ?_)
                    · skip
                      refine lv_iconst (v := 1) hx hb dX4_readPlace_244 (by decide) ?_
                      refine lv_goto (tgt := 249) hx hb dX4_readPlace_245 (by decide) ?_
                      refine mx_i (bI (kdB (tAz t i))) (by rw [show kdB (tAz t i) = true from decide_eq_true (Or.inr (Or.inr (Or.inr (Or.inl hq3))))]; rfl) ?_
                      exact hj249
                    · skip
                      refine lv_aload_n hx hb dX4_readPlace_217 rfl (lv_at hl 0 rfl) ?_
                      refine mx_get (ci := 4) (v := .int (tAz t i)) (C := RX4) (T := TX4) (N := 20) hx hb hts inX4 hown hK hP (by omega : 52 < n) hcb2 rfl 12 (by decide) (hts _ wm_280) (fun _ h9 => h9) rfl dX4_readPlace_218 ?_
                      refine lv_bipush (v := 99) hx hb dX4_readPlace_221 (by decide) ?_
                      refine lv_icmp_eq (tgt := 244) hx hb dX4_readPlace_223 (by decide) (fun hq4 => ?_) (fun hq4 => ?_)
                      · skip
                        refine lv_iconst (v := 1) hx hb dX4_readPlace_244 (by decide) ?_
                        refine lv_goto (tgt := 249) hx hb dX4_readPlace_245 (by decide) ?_
                        refine mx_i (bI (kdB (tAz t i))) (by rw [show kdB (tAz t i) = true from decide_eq_true (Or.inr (Or.inr (Or.inr (Or.inr (Or.inl hq4)))))]; rfl) ?_
                        exact hj249
                      · skip
                        refine lv_aload_n hx hb dX4_readPlace_226 rfl (lv_at hl 0 rfl) ?_
                        refine mx_get (ci := 4) (v := .int (tAz t i)) (C := RX4) (T := TX4) (N := 20) hx hb hts inX4 hown hK hP (by omega : 52 < n) hcb2 rfl 12 (by decide) (hts _ wm_280) (fun _ h9 => h9) rfl dX4_readPlace_227 ?_
                        refine lv_bipush (v := 115) hx hb dX4_readPlace_230 (by decide) ?_
                        refine lv_icmp_eq (tgt := 244) hx hb dX4_readPlace_232 (by decide) (fun hq5 => ?_) (fun hq5 => ?_)
                        · skip
                          refine lv_iconst (v := 1) hx hb dX4_readPlace_244 (by decide) ?_
                          refine lv_goto (tgt := 249) hx hb dX4_readPlace_245 (by decide) ?_
                          refine mx_i (bI (kdB (tAz t i))) (by rw [show kdB (tAz t i) = true from decide_eq_true (Or.inr (Or.inr (Or.inr (Or.inr (Or.inr (Or.inl hq5))))))]; rfl) ?_
                          exact hj249
                        · skip
                          refine lv_aload_n hx hb dX4_readPlace_235 rfl (lv_at hl 0 rfl) ?_
                          refine mx_get (ci := 4) (v := .int (tAz t i)) (C := RX4) (T := TX4) (N := 20) hx hb hts inX4 hown hK hP (by omega : 52 < n) hcb2 rfl 12 (by decide) (hts _ wm_280) (fun _ h9 => h9) rfl dX4_readPlace_236 ?_
                          refine lv_bipush (v := 37) hx hb dX4_readPlace_239 (by decide) ?_
                          refine lv_icmp_ne (tgt := 248) hx hb dX4_readPlace_241 (by decide) (fun hq6 => ?_) (fun hq6 => ?_)
                          · skip
                            refine lv_iconst (v := 0) hx hb dX4_readPlace_248 (by decide) ?_
                            refine mx_i (bI (kdB (tAz t i))) (by rw [show kdB (tAz t i) = false from decide_eq_false (fun h => h.elim hq0 (fun h => h.elim hq1 (fun h => h.elim hq2 (fun h => h.elim hq3 (fun h => h.elim hq4 (fun h => h.elim hq5 (fun h => hq6 h)))))))]; rfl) ?_
                            exact hj249
                          · skip
                            refine lv_iconst (v := 1) hx hb dX4_readPlace_244 (by decide) ?_
                            refine lv_goto (tgt := 249) hx hb dX4_readPlace_245 (by decide) ?_
                            refine mx_i (bI (kdB (tAz t i))) (by rw [show kdB (tAz t i) = true from decide_eq_true (Or.inr (Or.inr (Or.inr (Or.inr (Or.inr (Or.inr (hq6)))))))]; rfl) ?_
                            exact hj249
            have hkk := kz_cases (i := i) hby
            have hq2 : ∀ r : Int32, r = bI (kdB (tAz t i)) → ∃ i kd, i ≤ t.length ∧ t.drop i = (pPlace (t.drop i0)).2.2 ∧ b2 52 = rO ad x0 x1 x2 x3 x4 (nI (i + 1)) (nI (pPlace (t.drop i0)).2.1) kd (bI ((pPlace (t.drop i0)).1).1) (bI ((pPlace (t.drop i0)).1).2.1) (bI ((pPlace (t.drop i0)).1).2.2.1) (bI ((pPlace (t.drop i0)).1).2.2.2) x12 v ∧ (∀ j, j ≠ 52 → b2 j = c j) ∧ (i < t.length → kd = sB (t.getD i 0)) ∧ ((i < t.length ∧ isKd (t.getD i 0) = true ∧ r = 1) ∨ (¬ (i < t.length ∧ isKd (t.getD i 0) = true) ∧ r = 0)) := by
              intro r hr9
              refine ⟨i, tAz t i, hi, hdr.1, by rw [← hdr.2]; exact hcb2, fun j h => (hsb2 j h).trans ((hsb1 j h).trans (hs2 j h)), fun h => if_pos h, ?_⟩
              rw [hr9]
              cases hkv : kdB (tAz t i)
              · exact Or.inr ⟨fun h => absurd (hkk.mpr h) (by rw [hkv]; decide), rfl⟩
              · exact Or.inl ⟨(hkk.mp hkv).1, (hkk.mp hkv).2, rfl⟩
            generalize kdB (tAz t i) = gg at hq2 ⊢
            cases gg
            · skip
              exact mx_zret hx hb hr hlocks rfl hP hS (hq2 _ rfl) dX4_readPlace_249
            · skip
              exact mx_zret hx hb hr hlocks rfl hP hS (hq2 _ rfl) dX4_readPlace_249
          · skip
            have hdg : isDg (t.getD i 0) = true := sd_t hb8 (Int32.not_lt.mp hc2) (Int32.not_lt.mp hc3)
            obtain ⟨hd1, hd2⟩ := isDg_le hdg
            refine lv_aload_n hx hb dX4_readPlace_84 rfl (lv_at hl 0 rfl) ?_
            refine lv_bipush (v := 10) hx hb dX4_readPlace_85 (by decide) ?_
            refine lv_aload_n hx hb dX4_readPlace_87 rfl (lv_at hl 0 rfl) ?_
            refine mx_get (ci := 4) (v := .int (nI w1)) (C := RX4) (T := TX4) (N := 20) hx hb hts inX4 hown hK hP (by omega : 52 < n) hO2 rfl 11 (by decide) (hts _ wm_279) (fun _ h9 => h9) rfl dX4_readPlace_88 ?_
            refine lv_imul hx hb dX4_readPlace_91 ?_
            refine lv_aload_n hx hb dX4_readPlace_92 rfl (lv_at hl 0 rfl) ?_
            refine mx_get (ci := 4) (v := .ref (ad 54)) (C := RX4) (T := TX4) (N := 20) hx hb hts inX4 hown hK hP (by omega : 52 < n) hO2 rfl 1 (by decide) (hts _ wm_269) (fun _ h9 => h9) rfl dX4_readPlace_93 ?_
            refine lv_aload_n hx hb dX4_readPlace_96 rfl (lv_at hl 0 rfl) ?_
            refine mx_get (ci := 4) (v := .int (nI i)) (C := RX4) (T := TX4) (N := 20) hx hb hts inX4 hown hK hP (by omega : 52 < n) hO2 rfl 10 (by decide) (hts _ wm_278) (fun _ h9 => h9) rfl dX4_readPlace_97 ?_
            refine mx_bald hx hb hK hP (by omega : 54 < n) 2 h54 rfl (vp_in_nI (by omega) (by omega)) dX4_readPlace_100 ?_
            refine mx_i (sB (t.getD i 0)) (by rw [nI_clamp (by omega)]; exact hgi) ?_
            refine mx_i (nI (t.getD i 0)) (sB_lo _ (by omega)) ?_
            refine lv_iadd hx hb dX4_readPlace_101 ?_
            refine lv_bipush (v := 48) hx hb dX4_readPlace_102 (by decide) ?_
            refine lv_isub hx hb dX4_readPlace_104 ?_
            refine mx_i (nI (w1 * 10 + (t.getD i 0 - 48))) (by rw [Int32.mul_comm]; exact wd_eq hd1) ?_
            refine mx_put (ci := 4) (v := .int (nI (w1 * 10 + (t.getD i 0 - 48)))) (ty := .int) (C := RX4) (T := TX4) (N := 20) hx hb hts inX4 tyX4 tyX4_ok nmX4 hown hK hP hD hS (by omega : 52 < n) hO2 rfl 11 (by decide) (hts _ wm_279) (fun _ h9 => h9) rfl (by decide +kernel) rfl rfl (Nat.le_of_ble_eq_true rfl) dX4_readPlace_105 (fun H locs hP hS => ?_)
            obtain ⟨b1, eb1⟩ : ∃ z : Nat → va_E, z = va_up c2 52 (.inr (4, [.ref (ad 53), .ref (ad 54), .ref (ad 55), .ref (ad 56), .int x0, .int x1, .int x2, .int x3, .int x4, .ref (ad 57), .int (nI i), .int (nI (w1 * 10 + (t.getD i 0 - 48))), .int x7, .int (bI ((pFlags (t.drop i0) (false, false, false, false)).1).1), .int (bI ((pFlags (t.drop i0) (false, false, false, false)).1).2.1), .int (bI ((pFlags (t.drop i0) (false, false, false, false)).1).2.2.1), .int (bI ((pFlags (t.drop i0) (false, false, false, false)).1).2.2.2), .ref (ad 58), .int x12, .long v])) := ⟨_, rfl⟩
            have hP : va_P D vwCl (mw n ad b1) H := by rw [eb1]; exact hP
            have hsb1 : ∀ j, j ≠ 52 → b1 j = c2 j := fun j h => by rw [eb1]; exact va_up_ne _ _ h
            have hcb1 : b1 52 = .inr (4, [.ref (ad 53), .ref (ad 54), .ref (ad 55), .ref (ad 56), .int x0, .int x1, .int x2, .int x3, .int x4, .ref (ad 57), .int (nI i), .int (nI (w1 * 10 + (t.getD i 0 - 48))), .int x7, .int (bI ((pFlags (t.drop i0) (false, false, false, false)).1).1), .int (bI ((pFlags (t.drop i0) (false, false, false, false)).1).2.1), .int (bI ((pFlags (t.drop i0) (false, false, false, false)).1).2.2.1), .int (bI ((pFlags (t.drop i0) (false, false, false, false)).1).2.2.2), .ref (ad 58), .int x12, .long v]) := by rw [eb1]; exact va_up_self _ _ _
            refine lv_aload_n hx hb dX4_readPlace_108 rfl (lv_at hl 0 rfl) ?_
            suffices hj127 : W pg9 l ev9 (headSpec wsX4_readPlace ({ frames := 1, cells := 0, slots := 0, locals := 21 })).room s m ([.ref (ad 52)] : List Value).toArray below meth cd H locs 0 0 (MQ below (va_Qi (fun r c' => ∃ i kd, i ≤ t.length ∧ t.drop i = (pPlace (t.drop i0)).2.2 ∧ c' 52 = rO ad x0 x1 x2 x3 x4 (nI (i + 1)) (nI (pPlace (t.drop i0)).2.1) kd (bI ((pPlace (t.drop i0)).1).1) (bI ((pPlace (t.drop i0)).1).2.1) (bI ((pPlace (t.drop i0)).1).2.2.1) (bI ((pPlace (t.drop i0)).1).2.2.2) x12 v ∧ (∀ j, j ≠ 52 → c' j = c j) ∧ (i < t.length → kd = sB (t.getD i 0)) ∧ ((i < t.length ∧ isKd (t.getD i 0) = true ∧ r = 1) ∨ (¬ (i < t.length ∧ isKd (t.getD i 0) = true) ∧ r = 0))) (mW D n ad) (mA n ad s.heap.size)) ([.ref (ad 52)] : List Value).toArray s 0 0 (mA n ad s.heap.size)) (F0 m 127 ls [.int (nI (min 100000 (w1 * 10 + (t.getD i 0 - 48)))), .ref (ad 52)]) by
              refine lv_aload_n hx hb dX4_readPlace_109 rfl (lv_at hl 0 rfl) ?_
              refine mx_get (ci := 4) (v := .int (nI (w1 * 10 + (t.getD i 0 - 48)))) (C := RX4) (T := TX4) (N := 20) hx hb hts inX4 hown hK hP (by omega : 52 < n) hcb1 rfl 11 (by decide) (hts _ wm_279) (fun _ h9 => h9) rfl dX4_readPlace_110 ?_
              refine lv_ldc (v := 100000) hx hb hown (hts _ wm_387) dX4_readPlace_113 ?_
              refine lv_icmp_le (tgt := 123) hx hb dX4_readPlace_115 (by decide) (fun hc4 => ?_) (fun hc4 => ?_)
              · skip
                refine lv_aload_n hx hb dX4_readPlace_123 rfl (lv_at hl 0 rfl) ?_
                refine mx_get (ci := 4) (v := .int (nI (w1 * 10 + (t.getD i 0 - 48)))) (C := RX4) (T := TX4) (N := 20) hx hb hts inX4 hown hK hP (by omega : 52 < n) hcb1 rfl 11 (by decide) (hts _ wm_279) (fun _ h9 => h9) rfl dX4_readPlace_124 ?_
                refine mx_i (nI (min 100000 (w1 * 10 + (t.getD i 0 - 48)))) (by rw [Nat.min_eq_right ((nI_leI (b := 100000) (by omega) (by omega)).mp hc4)]) ?_
                exact hj127
              · skip
                refine lv_ldc (v := 100000) hx hb hown (hts _ wm_387) dX4_readPlace_118 ?_
                refine lv_goto (tgt := 127) hx hb dX4_readPlace_120 (by decide) ?_
                refine mx_i (nI (min 100000 (w1 * 10 + (t.getD i 0 - 48)))) (by rw [Nat.min_eq_left (by have := (not_congr (nI_leI (a := w1 * 10 + (t.getD i 0 - 48)) (b := 100000) (by omega) (by omega))).mp hc4; omega)]; rfl) ?_
                exact hj127
            refine mx_put (ci := 4) (v := .int (nI (min 100000 (w1 * 10 + (t.getD i 0 - 48))))) (ty := .int) (C := RX4) (T := TX4) (N := 20) hx hb hts inX4 tyX4 tyX4_ok nmX4 hown hK hP hD hS (by omega : 52 < n) hcb1 rfl 11 (by decide) (hts _ wm_279) (fun _ h9 => h9) rfl (by decide +kernel) rfl rfl (Nat.le_of_ble_eq_true rfl) dX4_readPlace_127 (fun H locs hP hS => ?_)
            obtain ⟨b2, eb2⟩ : ∃ z : Nat → va_E, z = va_up b1 52 (.inr (4, [.ref (ad 53), .ref (ad 54), .ref (ad 55), .ref (ad 56), .int x0, .int x1, .int x2, .int x3, .int x4, .ref (ad 57), .int (nI i), .int (nI (min 100000 (w1 * 10 + (t.getD i 0 - 48)))), .int x7, .int (bI ((pFlags (t.drop i0) (false, false, false, false)).1).1), .int (bI ((pFlags (t.drop i0) (false, false, false, false)).1).2.1), .int (bI ((pFlags (t.drop i0) (false, false, false, false)).1).2.2.1), .int (bI ((pFlags (t.drop i0) (false, false, false, false)).1).2.2.2), .ref (ad 58), .int x12, .long v])) := ⟨_, rfl⟩
            have hP : va_P D vwCl (mw n ad b2) H := by rw [eb2]; exact hP
            have hsb2 : ∀ j, j ≠ 52 → b2 j = b1 j := fun j h => by rw [eb2]; exact va_up_ne _ _ h
            have hcb2 : b2 52 = .inr (4, [.ref (ad 53), .ref (ad 54), .ref (ad 55), .ref (ad 56), .int x0, .int x1, .int x2, .int x3, .int x4, .ref (ad 57), .int (nI i), .int (nI (min 100000 (w1 * 10 + (t.getD i 0 - 48)))), .int x7, .int (bI ((pFlags (t.drop i0) (false, false, false, false)).1).1), .int (bI ((pFlags (t.drop i0) (false, false, false, false)).1).2.1), .int (bI ((pFlags (t.drop i0) (false, false, false, false)).1).2.2.1), .int (bI ((pFlags (t.drop i0) (false, false, false, false)).1).2.2.2), .ref (ad 58), .int x12, .long v]) := by rw [eb2]; exact va_up_self _ _ _
            refine lv_aload_n hx hb dX4_readPlace_130 rfl (lv_at hl 0 rfl) ?_
            refine lv_dup hx hb dX4_readPlace_131 rfl ?_
            refine mx_get (ci := 4) (v := .int (nI i)) (C := RX4) (T := TX4) (N := 20) hx hb hts inX4 hown hK hP (by omega : 52 < n) hcb2 rfl 10 (by decide) (hts _ wm_278) (fun _ h9 => h9) rfl dX4_readPlace_132 ?_
            refine lv_iconst (v := 1) hx hb dX4_readPlace_135 (by decide) ?_
            refine lv_iadd hx hb dX4_readPlace_136 ?_
            refine mx_i (nI (i + 1)) (nI_1 i) ?_
            refine mx_put (ci := 4) (v := .int (nI (i + 1))) (ty := .int) (C := RX4) (T := TX4) (N := 20) hx hb hts inX4 tyX4 tyX4_ok nmX4 hown hK hP hD hS (by omega : 52 < n) hcb2 rfl 10 (by decide) (hts _ wm_278) (fun _ h9 => h9) rfl (by decide +kernel) rfl rfl (Nat.le_of_ble_eq_true rfl) dX4_readPlace_137 (fun H locs hP hS => ?_)
            obtain ⟨b3, eb3⟩ : ∃ z : Nat → va_E, z = va_up b2 52 (.inr (4, [.ref (ad 53), .ref (ad 54), .ref (ad 55), .ref (ad 56), .int x0, .int x1, .int x2, .int x3, .int x4, .ref (ad 57), .int (nI (i + 1)), .int (nI (min 100000 (w1 * 10 + (t.getD i 0 - 48)))), .int x7, .int (bI ((pFlags (t.drop i0) (false, false, false, false)).1).1), .int (bI ((pFlags (t.drop i0) (false, false, false, false)).1).2.1), .int (bI ((pFlags (t.drop i0) (false, false, false, false)).1).2.2.1), .int (bI ((pFlags (t.drop i0) (false, false, false, false)).1).2.2.2), .ref (ad 58), .int x12, .long v])) := ⟨_, rfl⟩
            have hP : va_P D vwCl (mw n ad b3) H := by rw [eb3]; exact hP
            have hsb3 : ∀ j, j ≠ 52 → b3 j = b2 j := fun j h => by rw [eb3]; exact va_up_ne _ _ h
            have hcb3 : b3 52 = .inr (4, [.ref (ad 53), .ref (ad 54), .ref (ad 55), .ref (ad 56), .int x0, .int x1, .int x2, .int x3, .int x4, .ref (ad 57), .int (nI (i + 1)), .int (nI (min 100000 (w1 * 10 + (t.getD i 0 - 48)))), .int x7, .int (bI ((pFlags (t.drop i0) (false, false, false, false)).1).1), .int (bI ((pFlags (t.drop i0) (false, false, false, false)).1).2.1), .int (bI ((pFlags (t.drop i0) (false, false, false, false)).1).2.2.1), .int (bI ((pFlags (t.drop i0) (false, false, false, false)).1).2.2.2), .ref (ad 58), .int x12, .long v]) := by rw [eb3]; exact va_up_self _ _ _
            refine lv_goto (tgt := 45) hx hb dX4_readPlace_140 (by decide) ?_
            exact ih (i + 1) _ b3 H locs ls (by omega) (by omega) (Nat.min_le_left _ _) (by rw [heq, dr_cons hlt]; exact if_pos hdg) hcb3 (fun j h => (hsb3 j h).trans ((hsb2 j h).trans ((hsb1 j h).trans (hs2 j h)))) hP hS (lv_sub hl [0] rfl)
  have loop1 : ∀ (q2 : Nat) (i : Nat) (f1 : fl4) (c1 : Nat → va_E) (H : Heap) (locs : List Loc) (ls : Array Slot), (i ≤ t.length) → (t.length < i + q2) → (pFlags (t.drop i0) (false, false, false, false) = pFlags (t.drop i) f1) → (c1 52 = rO ad x0 x1 x2 x3 x4 (nI i) (nI 0) x7 (bI f1.1) (bI f1.2.1) (bI f1.2.2.1) (bI f1.2.2.2) x12 v) → (∀ j, j ≠ 52 → c1 j = c j) → va_P D vwCl (mw n ad c1) H → va_S (mA n ad s.heap.size) s.heap H locs → lv_has ls 1 [(0, .ref (ad 52))] → W pg9 l ev9 (headSpec wsX4_readPlace ({ frames := 1, cells := 0, slots := 0, locals := 21 })).room s m ([.ref (ad 52)] : List Value).toArray below meth cd H locs 0 0 (MQ below (va_Qi (fun r c' => ∃ i kd, i ≤ t.length ∧ t.drop i = (pPlace (t.drop i0)).2.2 ∧ c' 52 = rO ad x0 x1 x2 x3 x4 (nI (i + 1)) (nI (pPlace (t.drop i0)).2.1) kd (bI ((pPlace (t.drop i0)).1).1) (bI ((pPlace (t.drop i0)).1).2.1) (bI ((pPlace (t.drop i0)).1).2.2.1) (bI ((pPlace (t.drop i0)).1).2.2.2) x12 v ∧ (∀ j, j ≠ 52 → c' j = c j) ∧ (i < t.length → kd = sB (t.getD i 0)) ∧ ((i < t.length ∧ isKd (t.getD i 0) = true ∧ r = 1) ∨ (¬ (i < t.length ∧ isKd (t.getD i 0) = true) ∧ r = 0))) (mW D n ad) (mA n ad s.heap.size)) ([.ref (ad 52)] : List Value).toArray s 0 0 (mA n ad s.heap.size)) (F0 m 25 ls []) := by
    intro q2
    induction q2 with
    | zero => intro i f1 c1 H locs ls hi hq heq hO1 hs1 hP hS hl; omega
    | succ q2 ih =>
      intro i f1 c1 H locs ls hi hq heq hO1 hs1 hP hS hl
      refine lv_aload_n hx hb dX4_readPlace_25 rfl (lv_at hl 0 rfl) ?_
      refine mx_ci (va_runV (As := []) (rest := []) ⟨hx, hb, hml, hown, hts⟩ (c_flag l D ca n ad c1 hn (i := i) hO1 (hB.keep (hs1 54 (by omega))) hx1 rfl hi _) (cwV 0 hts (gV wm_383 wm_385 ws_17 wm_5 wm_386) rfl rfl rfl (by decide +kernel) ⟨Nat.le_of_ble_eq_true rfl, Nat.le_of_ble_eq_true rfl⟩) (mx_pv (C := RX4) (T := TX4) (N := 20) (ci := 4) hK hP hD hN (by omega : 52 < n) hO1 rfl) rfl rfl hl.1 rfl (lv_room (Nat.le_of_ble_eq_true rfl)) dX4_readPlace_26 ⟨Nat.zero_le _, Nat.zero_le _⟩) (Nat.le_refl _) hS (fun r c2 H locs hw hP hS => ?_)
      obtain ⟨hw, hs3⟩ := hw
      refine lv_if_eq (tgt := 45) hx hb dX4_readPlace_29 (by decide) (fun hc1 => ?_) (fun hc1 => ?_)
      · skip
        obtain ⟨hno, -, hO2⟩ := hw.resolve_left (fun h => by obtain ⟨h1, f9, h2, h3, -⟩ := h; rw [h3] at hc1; exact absurd hc1 (by decide))
        have hfl : pFlags (t.drop i) f1 = (f1, t.drop i) := by
          rcases Nat.lt_or_ge i t.length with h9 | h9
          · rw [dr_cons h9]
            show (match pFlag _ _ with | some f' => pFlags _ f' | none => (f1, _) : fl4 × List Nat) = _
            cases h8 : pFlag (t.getD i 0) f1 with
            | none => rfl
            | some f' => exact absurd ⟨h9, f', h8⟩ hno
          · rw [dr_nil h9]; rfl
        have hf1 : f1 = (pFlags (t.drop i0) (false, false, false, false)).1 := by rw [heq, hfl]
        have hp2 : (pPlace (t.drop i0)).2 = pWid (t.drop i) 0 := by
          show pWid (pFlags (t.drop i0) (false, false, false, false)).2 0 = _
          rw [heq, hfl]
        exact loop2 (t.length + 1 - i + 1) i 0 c2 H locs ls hi (by omega) (by omega) hp2 (by rw [← hf1]; exact hO2) (fun j h => (hs3 j h).trans (hs1 j h)) hP hS (lv_sub hl [0] rfl)
      · skip
        obtain ⟨hlt, f2, hf2, -, hO2⟩ := hw.resolve_right (fun h => hc1 h.2.1)
        refine lv_aload_n hx hb dX4_readPlace_32 rfl (lv_at hl 0 rfl) ?_
        refine lv_dup hx hb dX4_readPlace_33 rfl ?_
        refine mx_get (ci := 4) (v := .int (nI i)) (C := RX4) (T := TX4) (N := 20) hx hb hts inX4 hown hK hP (by omega : 52 < n) hO2 rfl 10 (by decide) (hts _ wm_278) (fun _ h9 => h9) rfl dX4_readPlace_34 ?_
        refine lv_iconst (v := 1) hx hb dX4_readPlace_37 (by decide) ?_
        refine lv_iadd hx hb dX4_readPlace_38 ?_
        refine mx_i (nI (i + 1)) (nI_1 i) ?_
        refine mx_put (ci := 4) (v := .int (nI (i + 1))) (ty := .int) (C := RX4) (T := TX4) (N := 20) hx hb hts inX4 tyX4 tyX4_ok nmX4 hown hK hP hD hS (by omega : 52 < n) hO2 rfl 10 (by decide) (hts _ wm_278) (fun _ h9 => h9) rfl (by decide +kernel) rfl rfl (Nat.le_of_ble_eq_true rfl) dX4_readPlace_39 (fun H locs hP hS => ?_)
        obtain ⟨b1, eb1⟩ : ∃ z : Nat → va_E, z = va_up c2 52 (.inr (4, [.ref (ad 53), .ref (ad 54), .ref (ad 55), .ref (ad 56), .int x0, .int x1, .int x2, .int x3, .int x4, .ref (ad 57), .int (nI (i + 1)), .int (nI 0), .int x7, .int (bI f2.1), .int (bI f2.2.1), .int (bI f2.2.2.1), .int (bI f2.2.2.2), .ref (ad 58), .int x12, .long v])) := ⟨_, rfl⟩
        have hP : va_P D vwCl (mw n ad b1) H := by rw [eb1]; exact hP
        have hsb1 : ∀ j, j ≠ 52 → b1 j = c2 j := fun j h => by rw [eb1]; exact va_up_ne _ _ h
        have hcb1 : b1 52 = .inr (4, [.ref (ad 53), .ref (ad 54), .ref (ad 55), .ref (ad 56), .int x0, .int x1, .int x2, .int x3, .int x4, .ref (ad 57), .int (nI (i + 1)), .int (nI 0), .int x7, .int (bI f2.1), .int (bI f2.2.1), .int (bI f2.2.2.1), .int (bI f2.2.2.2), .ref (ad 58), .int x12, .long v]) := by rw [eb1]; exact va_up_self _ _ _
        refine lv_goto (tgt := 25) hx hb dX4_readPlace_42 (by decide) ?_
        exact ih (i + 1) f2 b1 H locs ls (by omega) (by omega) (by rw [heq, dr_cons hlt]; show (match pFlag _ _ with | some f' => pFlags _ f' | none => (f1, _) : fl4 × List Nat) = _; rw [hf2]) hcb1 (fun j h => (hsb1 j h).trans ((hs3 j h).trans (hs1 j h))) hP hS (lv_sub hl [0] rfl)
  refine lv_aload_n hx hb dX4_readPlace_0 rfl (lv_at hl 0 rfl) ?_
  refine lv_iconst (v := 0) hx hb dX4_readPlace_1 (by decide) ?_
  refine mx_i (bI false) (rfl) ?_
  refine mx_put (ci := 4) (v := .int (bI false)) (ty := .boolean) (C := RX4) (T := TX4) (N := 20) hx hb hts inX4 tyX4 tyX4_ok nmX4 hown hK hP hD hS (by omega : 52 < n) hO rfl 13 (by decide) (hts _ wm_281) (fun _ h9 => h9) rfl (by decide +kernel) rfl rfl (Nat.le_of_ble_eq_true rfl) dX4_readPlace_2 (fun H locs hP hS => ?_)
  obtain ⟨a1, ea1⟩ : ∃ z : Nat → va_E, z = va_up c 52 (.inr (4, [.ref (ad 53), .ref (ad 54), .ref (ad 55), .ref (ad 56), .int x0, .int x1, .int x2, .int x3, .int x4, .ref (ad 57), .int (nI i0), .int x6, .int x7, .int (bI false), .int (bI f.2.1), .int (bI f.2.2.1), .int (bI f.2.2.2), .ref (ad 58), .int x12, .long v])) := ⟨_, rfl⟩
  have hP : va_P D vwCl (mw n ad a1) H := by rw [ea1]; exact hP
  have hsa1 : ∀ j, j ≠ 52 → a1 j = c j := fun j h => by rw [ea1]; exact va_up_ne _ _ h
  have hca1 : a1 52 = .inr (4, [.ref (ad 53), .ref (ad 54), .ref (ad 55), .ref (ad 56), .int x0, .int x1, .int x2, .int x3, .int x4, .ref (ad 57), .int (nI i0), .int x6, .int x7, .int (bI false), .int (bI f.2.1), .int (bI f.2.2.1), .int (bI f.2.2.2), .ref (ad 58), .int x12, .long v]) := by rw [ea1]; exact va_up_self _ _ _
  refine lv_aload_n hx hb dX4_readPlace_5 rfl (lv_at hl 0 rfl) ?_
  refine lv_iconst (v := 0) hx hb dX4_readPlace_6 (by decide) ?_
  refine mx_i (bI false) (rfl) ?_
  refine mx_put (ci := 4) (v := .int (bI false)) (ty := .boolean) (C := RX4) (T := TX4) (N := 20) hx hb hts inX4 tyX4 tyX4_ok nmX4 hown hK hP hD hS (by omega : 52 < n) hca1 rfl 14 (by decide) (hts _ wm_282) (fun _ h9 => h9) rfl (by decide +kernel) rfl rfl (Nat.le_of_ble_eq_true rfl) dX4_readPlace_7 (fun H locs hP hS => ?_)
  obtain ⟨a2, ea2⟩ : ∃ z : Nat → va_E, z = va_up a1 52 (.inr (4, [.ref (ad 53), .ref (ad 54), .ref (ad 55), .ref (ad 56), .int x0, .int x1, .int x2, .int x3, .int x4, .ref (ad 57), .int (nI i0), .int x6, .int x7, .int (bI false), .int (bI false), .int (bI f.2.2.1), .int (bI f.2.2.2), .ref (ad 58), .int x12, .long v])) := ⟨_, rfl⟩
  have hP : va_P D vwCl (mw n ad a2) H := by rw [ea2]; exact hP
  have hsa2 : ∀ j, j ≠ 52 → a2 j = a1 j := fun j h => by rw [ea2]; exact va_up_ne _ _ h
  have hca2 : a2 52 = .inr (4, [.ref (ad 53), .ref (ad 54), .ref (ad 55), .ref (ad 56), .int x0, .int x1, .int x2, .int x3, .int x4, .ref (ad 57), .int (nI i0), .int x6, .int x7, .int (bI false), .int (bI false), .int (bI f.2.2.1), .int (bI f.2.2.2), .ref (ad 58), .int x12, .long v]) := by rw [ea2]; exact va_up_self _ _ _
  refine lv_aload_n hx hb dX4_readPlace_10 rfl (lv_at hl 0 rfl) ?_
  refine lv_iconst (v := 0) hx hb dX4_readPlace_11 (by decide) ?_
  refine mx_i (bI false) (rfl) ?_
  refine mx_put (ci := 4) (v := .int (bI false)) (ty := .boolean) (C := RX4) (T := TX4) (N := 20) hx hb hts inX4 tyX4 tyX4_ok nmX4 hown hK hP hD hS (by omega : 52 < n) hca2 rfl 15 (by decide) (hts _ wm_283) (fun _ h9 => h9) rfl (by decide +kernel) rfl rfl (Nat.le_of_ble_eq_true rfl) dX4_readPlace_12 (fun H locs hP hS => ?_)
  obtain ⟨a3, ea3⟩ : ∃ z : Nat → va_E, z = va_up a2 52 (.inr (4, [.ref (ad 53), .ref (ad 54), .ref (ad 55), .ref (ad 56), .int x0, .int x1, .int x2, .int x3, .int x4, .ref (ad 57), .int (nI i0), .int x6, .int x7, .int (bI false), .int (bI false), .int (bI false), .int (bI f.2.2.2), .ref (ad 58), .int x12, .long v])) := ⟨_, rfl⟩
  have hP : va_P D vwCl (mw n ad a3) H := by rw [ea3]; exact hP
  have hsa3 : ∀ j, j ≠ 52 → a3 j = a2 j := fun j h => by rw [ea3]; exact va_up_ne _ _ h
  have hca3 : a3 52 = .inr (4, [.ref (ad 53), .ref (ad 54), .ref (ad 55), .ref (ad 56), .int x0, .int x1, .int x2, .int x3, .int x4, .ref (ad 57), .int (nI i0), .int x6, .int x7, .int (bI false), .int (bI false), .int (bI false), .int (bI f.2.2.2), .ref (ad 58), .int x12, .long v]) := by rw [ea3]; exact va_up_self _ _ _
  refine lv_aload_n hx hb dX4_readPlace_15 rfl (lv_at hl 0 rfl) ?_
  refine lv_iconst (v := 0) hx hb dX4_readPlace_16 (by decide) ?_
  refine mx_i (bI false) (rfl) ?_
  refine mx_put (ci := 4) (v := .int (bI false)) (ty := .boolean) (C := RX4) (T := TX4) (N := 20) hx hb hts inX4 tyX4 tyX4_ok nmX4 hown hK hP hD hS (by omega : 52 < n) hca3 rfl 16 (by decide) (hts _ wm_284) (fun _ h9 => h9) rfl (by decide +kernel) rfl rfl (Nat.le_of_ble_eq_true rfl) dX4_readPlace_17 (fun H locs hP hS => ?_)
  obtain ⟨a4, ea4⟩ : ∃ z : Nat → va_E, z = va_up a3 52 (.inr (4, [.ref (ad 53), .ref (ad 54), .ref (ad 55), .ref (ad 56), .int x0, .int x1, .int x2, .int x3, .int x4, .ref (ad 57), .int (nI i0), .int x6, .int x7, .int (bI false), .int (bI false), .int (bI false), .int (bI false), .ref (ad 58), .int x12, .long v])) := ⟨_, rfl⟩
  have hP : va_P D vwCl (mw n ad a4) H := by rw [ea4]; exact hP
  have hsa4 : ∀ j, j ≠ 52 → a4 j = a3 j := fun j h => by rw [ea4]; exact va_up_ne _ _ h
  have hca4 : a4 52 = .inr (4, [.ref (ad 53), .ref (ad 54), .ref (ad 55), .ref (ad 56), .int x0, .int x1, .int x2, .int x3, .int x4, .ref (ad 57), .int (nI i0), .int x6, .int x7, .int (bI false), .int (bI false), .int (bI false), .int (bI false), .ref (ad 58), .int x12, .long v]) := by rw [ea4]; exact va_up_self _ _ _
  refine lv_aload_n hx hb dX4_readPlace_20 rfl (lv_at hl 0 rfl) ?_
  refine lv_iconst (v := 0) hx hb dX4_readPlace_21 (by decide) ?_
  refine mx_i (nI 0) (nI_0.symm) ?_
  refine mx_put (ci := 4) (v := .int (nI 0)) (ty := .int) (C := RX4) (T := TX4) (N := 20) hx hb hts inX4 tyX4 tyX4_ok nmX4 hown hK hP hD hS (by omega : 52 < n) hca4 rfl 11 (by decide) (hts _ wm_279) (fun _ h9 => h9) rfl (by decide +kernel) rfl rfl (Nat.le_of_ble_eq_true rfl) dX4_readPlace_22 (fun H locs hP hS => ?_)
  obtain ⟨a5, ea5⟩ : ∃ z : Nat → va_E, z = va_up a4 52 (.inr (4, [.ref (ad 53), .ref (ad 54), .ref (ad 55), .ref (ad 56), .int x0, .int x1, .int x2, .int x3, .int x4, .ref (ad 57), .int (nI i0), .int (nI 0), .int x7, .int (bI false), .int (bI false), .int (bI false), .int (bI false), .ref (ad 58), .int x12, .long v])) := ⟨_, rfl⟩
  have hP : va_P D vwCl (mw n ad a5) H := by rw [ea5]; exact hP
  have hsa5 : ∀ j, j ≠ 52 → a5 j = a4 j := fun j h => by rw [ea5]; exact va_up_ne _ _ h
  have hca5 : a5 52 = .inr (4, [.ref (ad 53), .ref (ad 54), .ref (ad 55), .ref (ad 56), .int x0, .int x1, .int x2, .int x3, .int x4, .ref (ad 57), .int (nI i0), .int (nI 0), .int x7, .int (bI false), .int (bI false), .int (bI false), .int (bI false), .ref (ad 58), .int x12, .long v]) := by rw [ea5]; exact va_up_self _ _ _
  exact loop1 (t.length + 1 - i0 + 1) i0 (false, false, false, false) a5 _ _ ls hi0 (by omega) rfl hca5 (fun j h => (hsa5 j h).trans ((hsa4 j h).trans ((hsa3 j h).trans ((hsa2 j h).trans (hsa1 j h))))) hP hS (lv_sub hl [0] rfl)
end
