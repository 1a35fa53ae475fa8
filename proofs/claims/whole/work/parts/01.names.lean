-- ===== PART A: goes FIRST, ahead of the names: the tables' words, and 'selects' of the private methods out of them =====
/-- a private method of a class that the tables say can be made, by its rows of tables_1 -/
def lw_okq (q : MethodName × Nat) : Prop := (q.1.cls ≠ "java/lang/invoke/MethodHandle" ∧ q.1.cls ≠ "java/lang/invoke/VarHandle") ∧ Cond.instantiable q.1.cls q.2 ∈ tables_1 ∧ Cond.privateMethod q.1 ∈ tables_1 ∧ Cond.instanceMethod q.1 ∈ tables_1
theorem lw_p0 : lw_okq (⟨"FormatMill", "hasRoomForArgument", "()Z"⟩, 9) := ⟨⟨by decide +kernel, by decide +kernel⟩, List.mem_of_getElem? (i := 8) (by decide +kernel), List.mem_of_getElem? (i := 150) (by decide +kernel), List.mem_of_getElem? (i := 151) (by decide +kernel)⟩
theorem lw_p1 : lw_okq (⟨"FormatMill", "nextArgument", "()LFormatMill$Text;"⟩, 9) := ⟨⟨by decide +kernel, by decide +kernel⟩, List.mem_of_getElem? (i := 8) (by decide +kernel), List.mem_of_getElem? (i := 154) (by decide +kernel), List.mem_of_getElem? (i := 155) (by decide +kernel)⟩
theorem lw_p2 : lw_okq (⟨"FormatMill$Place", "readFlags", "(LFormatMill$Text;I)I"⟩, 7) := ⟨⟨by decide +kernel, by decide +kernel⟩, List.mem_of_getElem? (i := 34) (by decide +kernel), List.mem_of_getElem? (i := 185) (by decide +kernel), List.mem_of_getElem? (i := 186) (by decide +kernel)⟩
theorem lw_p3 : lw_okq (⟨"FormatMill$Place", "setFlag", "(I)Z"⟩, 7) := ⟨⟨by decide +kernel, by decide +kernel⟩, List.mem_of_getElem? (i := 34) (by decide +kernel), List.mem_of_getElem? (i := 190) (by decide +kernel), List.mem_of_getElem? (i := 191) (by decide +kernel)⟩
theorem lw_p4 : lw_okq (⟨"FormatMill$Place", "readWidth", "(LFormatMill$Text;I)I"⟩, 7) := ⟨⟨by decide +kernel, by decide +kernel⟩, List.mem_of_getElem? (i := 34) (by decide +kernel), List.mem_of_getElem? (i := 194) (by decide +kernel), List.mem_of_getElem? (i := 195) (by decide +kernel)⟩
theorem lw_p5 : lw_okq (⟨"FormatMill", "fillPlace", "()I"⟩, 9) := ⟨⟨by decide +kernel, by decide +kernel⟩, List.mem_of_getElem? (i := 8) (by decide +kernel), List.mem_of_getElem? (i := 208) (by decide +kernel), List.mem_of_getElem? (i := 209) (by decide +kernel)⟩
theorem lw_p6 : lw_okq (⟨"FormatMill", "addPadded", "(ILFormatMill$Text;Z)I"⟩, 9) := ⟨⟨by decide +kernel, by decide +kernel⟩, List.mem_of_getElem? (i := 8) (by decide +kernel), List.mem_of_getElem? (i := 212) (by decide +kernel), List.mem_of_getElem? (i := 213) (by decide +kernel)⟩
theorem lw_p7 : lw_okq (⟨"FormatMill$Numeral", "readHexadecimal", "(LFormatMill$Text;IZ)Z"⟩, 1) := ⟨⟨by decide +kernel, by decide +kernel⟩, List.mem_of_getElem? (i := 67) (by decide +kernel), List.mem_of_getElem? (i := 228) (by decide +kernel), List.mem_of_getElem? (i := 229) (by decide +kernel)⟩
theorem lw_p8 : lw_okq (⟨"FormatMill$Numeral", "readDecimal", "(LFormatMill$Text;IZ)Z"⟩, 1) := ⟨⟨by decide +kernel, by decide +kernel⟩, List.mem_of_getElem? (i := 67) (by decide +kernel), List.mem_of_getElem? (i := 236) (by decide +kernel), List.mem_of_getElem? (i := 237) (by decide +kernel)⟩
theorem lw_p9 : lw_okq (⟨"FormatMill$Numeral", "takeDigitBelowZero", "(I)Z"⟩, 1) := ⟨⟨by decide +kernel, by decide +kernel⟩, List.mem_of_getElem? (i := 67) (by decide +kernel), List.mem_of_getElem? (i := 240) (by decide +kernel), List.mem_of_getElem? (i := 241) (by decide +kernel)⟩
theorem lw_p10 : lw_okq (⟨"FormatMill", "fillWithInteger", "(J)I"⟩, 9) := ⟨⟨by decide +kernel, by decide +kernel⟩, List.mem_of_getElem? (i := 8) (by decide +kernel), List.mem_of_getElem? (i := 247) (by decide +kernel), List.mem_of_getElem? (i := 248) (by decide +kernel)⟩
theorem lw_p11 : lw_okq (⟨"FormatMillModel", "lay", "(I)V"⟩, 20) := ⟨⟨by decide +kernel, by decide +kernel⟩, List.mem_of_getElem? (i := 263) (by decide +kernel), List.mem_of_getElem? (i := 335) (by decide +kernel), List.mem_of_getElem? (i := 336) (by decide +kernel)⟩
theorem lw_p12 : lw_okq (⟨"FormatMillModel", "decimal", "(J)V"⟩, 20) := ⟨⟨by decide +kernel, by decide +kernel⟩, List.mem_of_getElem? (i := 263) (by decide +kernel), List.mem_of_getElem? (i := 355) (by decide +kernel), List.mem_of_getElem? (i := 356) (by decide +kernel)⟩
theorem lw_p13 : lw_okq (⟨"FormatMillModel", "digits", "(J)V"⟩, 20) := ⟨⟨by decide +kernel, by decide +kernel⟩, List.mem_of_getElem? (i := 263) (by decide +kernel), List.mem_of_getElem? (i := 359) (by decide +kernel), List.mem_of_getElem? (i := 360) (by decide +kernel)⟩
theorem lw_p14 : lw_okq (⟨"FormatMillModel", "ahead", "(I)V"⟩, 20) := ⟨⟨by decide +kernel, by decide +kernel⟩, List.mem_of_getElem? (i := 263) (by decide +kernel), List.mem_of_getElem? (i := 364) (by decide +kernel), List.mem_of_getElem? (i := 365) (by decide +kernel)⟩
theorem lw_p15 : lw_okq (⟨"FormatMillModel", "put", "(I)Z"⟩, 20) := ⟨⟨by decide +kernel, by decide +kernel⟩, List.mem_of_getElem? (i := 263) (by decide +kernel), List.mem_of_getElem? (i := 376) (by decide +kernel), List.mem_of_getElem? (i := 377) (by decide +kernel)⟩
def lw_privs_1 : List (MethodName × Nat) := [(⟨"FormatMill", "hasRoomForArgument", "()Z"⟩, 9), (⟨"FormatMill", "nextArgument", "()LFormatMill$Text;"⟩, 9), (⟨"FormatMill$Place", "readFlags", "(LFormatMill$Text;I)I"⟩, 7), (⟨"FormatMill$Place", "setFlag", "(I)Z"⟩, 7), (⟨"FormatMill$Place", "readWidth", "(LFormatMill$Text;I)I"⟩, 7), (⟨"FormatMill", "fillPlace", "()I"⟩, 9), (⟨"FormatMill", "addPadded", "(ILFormatMill$Text;Z)I"⟩, 9), (⟨"FormatMill$Numeral", "readHexadecimal", "(LFormatMill$Text;IZ)Z"⟩, 1), (⟨"FormatMill$Numeral", "readDecimal", "(LFormatMill$Text;IZ)Z"⟩, 1), (⟨"FormatMill$Numeral", "takeDigitBelowZero", "(I)Z"⟩, 1), (⟨"FormatMill", "fillWithInteger", "(J)I"⟩, 9), (⟨"FormatMillModel", "lay", "(I)V"⟩, 20), (⟨"FormatMillModel", "decimal", "(J)V"⟩, 20), (⟨"FormatMillModel", "digits", "(J)V"⟩, 20), (⟨"FormatMillModel", "ahead", "(I)V"⟩, 20), (⟨"FormatMillModel", "put", "(I)Z"⟩, 20)]
theorem lw_r1 : ∀ q ∈ lw_privs_1, lw_okq q := List.forall_mem_cons.mpr ⟨lw_p0, List.forall_mem_cons.mpr ⟨lw_p1, List.forall_mem_cons.mpr ⟨lw_p2, List.forall_mem_cons.mpr ⟨lw_p3, List.forall_mem_cons.mpr ⟨lw_p4, List.forall_mem_cons.mpr ⟨lw_p5, List.forall_mem_cons.mpr ⟨lw_p6, List.forall_mem_cons.mpr ⟨lw_p7, List.forall_mem_cons.mpr ⟨lw_p8, List.forall_mem_cons.mpr ⟨lw_p9, List.forall_mem_cons.mpr ⟨lw_p10, List.forall_mem_cons.mpr ⟨lw_p11, List.forall_mem_cons.mpr ⟨lw_p12, List.forall_mem_cons.mpr ⟨lw_p13, List.forall_mem_cons.mpr ⟨lw_p14, List.forall_mem_cons.mpr ⟨lw_p15, fun _ h => absurd h List.not_mem_nil⟩⟩⟩⟩⟩⟩⟩⟩⟩⟩⟩⟩⟩⟩⟩⟩
theorem lw_p16 : lw_okq (⟨"FormatMillModel", "readPlace", "()Z"⟩, 20) := ⟨⟨by decide +kernel, by decide +kernel⟩, List.mem_of_getElem? (i := 263) (by decide +kernel), List.mem_of_getElem? (i := 380) (by decide +kernel), List.mem_of_getElem? (i := 381) (by decide +kernel)⟩
theorem lw_p17 : lw_okq (⟨"FormatMillModel", "flag", "()Z"⟩, 20) := ⟨⟨by decide +kernel, by decide +kernel⟩, List.mem_of_getElem? (i := 263) (by decide +kernel), List.mem_of_getElem? (i := 384) (by decide +kernel), List.mem_of_getElem? (i := 385) (by decide +kernel)⟩
theorem lw_p18 : lw_okq (⟨"FormatMillModel", "filled", "(I)I"⟩, 20) := ⟨⟨by decide +kernel, by decide +kernel⟩, List.mem_of_getElem? (i := 263) (by decide +kernel), List.mem_of_getElem? (i := 389) (by decide +kernel), List.mem_of_getElem? (i := 390) (by decide +kernel)⟩
theorem lw_p19 : lw_okq (⟨"FormatMillModel", "fill", "([BIII)Z"⟩, 20) := ⟨⟨by decide +kernel, by decide +kernel⟩, List.mem_of_getElem? (i := 263) (by decide +kernel), List.mem_of_getElem? (i := 393) (by decide +kernel), List.mem_of_getElem? (i := 394) (by decide +kernel)⟩
theorem lw_p20 : lw_okq (⟨"FormatMillModel", "puts", "(II)Z"⟩, 20) := ⟨⟨by decide +kernel, by decide +kernel⟩, List.mem_of_getElem? (i := 263) (by decide +kernel), List.mem_of_getElem? (i := 397) (by decide +kernel), List.mem_of_getElem? (i := 398) (by decide +kernel)⟩
theorem lw_p21 : lw_okq (⟨"FormatMillModel", "isInteger", "(I)Z"⟩, 20) := ⟨⟨by decide +kernel, by decide +kernel⟩, List.mem_of_getElem? (i := 263) (by decide +kernel), List.mem_of_getElem? (i := 401) (by decide +kernel), List.mem_of_getElem? (i := 402) (by decide +kernel)⟩
theorem lw_p22 : lw_okq (⟨"FormatMillModel", "isHex", "(IIZ)Z"⟩, 20) := ⟨⟨by decide +kernel, by decide +kernel⟩, List.mem_of_getElem? (i := 263) (by decide +kernel), List.mem_of_getElem? (i := 405) (by decide +kernel), List.mem_of_getElem? (i := 406) (by decide +kernel)⟩
theorem lw_p23 : lw_okq (⟨"FormatMillModel", "isDecimal", "(IIZ)Z"⟩, 20) := ⟨⟨by decide +kernel, by decide +kernel⟩, List.mem_of_getElem? (i := 263) (by decide +kernel), List.mem_of_getElem? (i := 412) (by decide +kernel), List.mem_of_getElem? (i := 413) (by decide +kernel)⟩
theorem lw_p24 : lw_okq (⟨"FormatMillModel", "bits", "(JII)V"⟩, 20) := ⟨⟨by decide +kernel, by decide +kernel⟩, List.mem_of_getElem? (i := 263) (by decide +kernel), List.mem_of_getElem? (i := 418) (by decide +kernel), List.mem_of_getElem? (i := 419) (by decide +kernel)⟩
def lw_privs_2 : List (MethodName × Nat) := [(⟨"FormatMillModel", "readPlace", "()Z"⟩, 20), (⟨"FormatMillModel", "flag", "()Z"⟩, 20), (⟨"FormatMillModel", "filled", "(I)I"⟩, 20), (⟨"FormatMillModel", "fill", "([BIII)Z"⟩, 20), (⟨"FormatMillModel", "puts", "(II)Z"⟩, 20), (⟨"FormatMillModel", "isInteger", "(I)Z"⟩, 20), (⟨"FormatMillModel", "isHex", "(IIZ)Z"⟩, 20), (⟨"FormatMillModel", "isDecimal", "(IIZ)Z"⟩, 20), (⟨"FormatMillModel", "bits", "(JII)V"⟩, 20)]
theorem lw_r2 : ∀ q ∈ lw_privs_2, lw_okq q := List.forall_mem_cons.mpr ⟨lw_p16, List.forall_mem_cons.mpr ⟨lw_p17, List.forall_mem_cons.mpr ⟨lw_p18, List.forall_mem_cons.mpr ⟨lw_p19, List.forall_mem_cons.mpr ⟨lw_p20, List.forall_mem_cons.mpr ⟨lw_p21, List.forall_mem_cons.mpr ⟨lw_p22, List.forall_mem_cons.mpr ⟨lw_p23, List.forall_mem_cons.mpr ⟨lw_p24, fun _ h => absurd h List.not_mem_nil⟩⟩⟩⟩⟩⟩⟩⟩⟩
def lw_privs : List (MethodName × Nat) := lw_privs_1 ++ (lw_privs_2)
def lw_tbl : List Cond := k2_sels lw_privs ++ tables_1
theorem lw_privs_ok : ∀ q ∈ lw_privs, lw_okq q := by
  show ∀ q ∈ lw_privs_1 ++ (lw_privs_2), lw_okq q
  exact List.forall_mem_append.mpr ⟨lw_r1, lw_r2⟩

def RX0 : String := "FormatMill$Numeral"
def TX0 : u_T := fun k => match k with
  | _ => ("FormatMill$Numeral", "value", "J", false)
def tyX0 : Nat → FieldType := fun k => match k with
  | _ => .long
theorem nmX0 : ∀ a, a < 1 → ∀ b, b < 1 → a ≠ b → (TX0 a).2.1 ≠ (TX0 b).2.1 := by decide +kernel
theorem tyX0_ok : ∀ k, k < 1 → parseFieldDescriptor (TX0 k).2.2.1 = some (tyX0 k) := by decide +kernel
def RX1 : String := "FormatMill$Place"
def TX1 : u_T := fun k => match k with
  | 0 => ("FormatMill$Place", "left", "Z", false)
  | 1 => ("FormatMill$Place", "zeros", "Z", false)
  | 2 => ("FormatMill$Place", "plus", "Z", false)
  | 3 => ("FormatMill$Place", "blank", "Z", false)
  | 4 => ("FormatMill$Place", "width", "I", false)
  | 5 => ("FormatMill$Place", "kind", "I", false)
  | _ => ("FormatMill$Place", "behind", "I", false)
def tyX1 : Nat → FieldType := fun k => match k with
  | 0 => .boolean
  | 1 => .boolean
  | 2 => .boolean
  | 3 => .boolean
  | 4 => .int
  | 5 => .int
  | _ => .int
theorem nmX1 : ∀ a, a < 7 → ∀ b, b < 7 → a ≠ b → (TX1 a).2.1 ≠ (TX1 b).2.1 := by decide +kernel
theorem tyX1_ok : ∀ k, k < 7 → parseFieldDescriptor (TX1 k).2.2.1 = some (tyX1 k) := by decide +kernel
def RX2 : String := "FormatMill$Text"
def TX2 : u_T := fun k => match k with
  | 0 => ("FormatMill$Text", "bytes", "[I", true)
  | _ => ("FormatMill$Text", "length", "I", false)
def tyX2 : Nat → FieldType := fun k => match k with
  | 0 => .array .int
  | _ => .int
theorem nmX2 : ∀ a, a < 2 → ∀ b, b < 2 → a ≠ b → (TX2 a).2.1 ≠ (TX2 b).2.1 := by decide +kernel
theorem tyX2_ok : ∀ k, k < 2 → parseFieldDescriptor (TX2 k).2.2.1 = some (tyX2 k) := by decide +kernel
def RX3 : String := "FormatMill"
def TX3 : u_T := fun k => match k with
  | 0 => ("FormatMill", "tape", "LFormatMill$Text;", true)
  | 1 => ("FormatMill", "pattern", "LFormatMill$Text;", true)
  | 2 => ("FormatMill", "made", "LFormatMill$Text;", true)
  | 3 => ("FormatMill", "arguments", "[LFormatMill$Text;", true)
  | 4 => ("FormatMill", "argumentCount", "I", false)
  | 5 => ("FormatMill", "taken", "I", false)
  | 6 => ("FormatMill", "place", "LFormatMill$Place;", true)
  | 7 => ("FormatMill", "numeral", "LFormatMill$Numeral;", true)
  | _ => ("FormatMill", "digits", "LFormatMill$Text;", true)
def tyX3 : Nat → FieldType := fun k => match k with
  | 0 => .object "FormatMill$Text"
  | 1 => .object "FormatMill$Text"
  | 2 => .object "FormatMill$Text"
  | 3 => .array (.object "FormatMill$Text")
  | 4 => .int
  | 5 => .int
  | 6 => .object "FormatMill$Place"
  | 7 => .object "FormatMill$Numeral"
  | _ => .object "FormatMill$Text"
theorem nmX3 : ∀ a, a < 9 → ∀ b, b < 9 → a ≠ b → (TX3 a).2.1 ≠ (TX3 b).2.1 := by decide +kernel
theorem tyX3_ok : ∀ k, k < 9 → parseFieldDescriptor (TX3 k).2.2.1 = some (tyX3 k) := by decide +kernel
def RX4 : String := "FormatMillModel"
def TX4 : u_T := fun k => match k with
  | 0 => ("FormatMillModel", "tape", "[B", true)
  | 1 => ("FormatMillModel", "text", "[B", true)
  | 2 => ("FormatMillModel", "words", "[B", true)
  | 3 => ("FormatMillModel", "out", "[B", true)
  | 4 => ("FormatMillModel", "taped", "I", false)
  | 5 => ("FormatMillModel", "size", "I", false)
  | 6 => ("FormatMillModel", "many", "I", false)
  | 7 => ("FormatMillModel", "made", "I", false)
  | 8 => ("FormatMillModel", "outSize", "I", false)
  | 9 => ("FormatMillModel", "wordSize", "[I", true)
  | 10 => ("FormatMillModel", "at", "I", false)
  | 11 => ("FormatMillModel", "width", "I", false)
  | 12 => ("FormatMillModel", "kind", "I", false)
  | 13 => ("FormatMillModel", "left", "Z", false)
  | 14 => ("FormatMillModel", "zeros", "Z", false)
  | 15 => ("FormatMillModel", "plus", "Z", false)
  | 16 => ("FormatMillModel", "blank", "Z", false)
  | 17 => ("FormatMillModel", "piece", "[B", true)
  | 18 => ("FormatMillModel", "from", "I", false)
  | _ => ("FormatMillModel", "value", "J", false)
def tyX4 : Nat → FieldType := fun k => match k with
  | 0 => .array .byte
  | 1 => .array .byte
  | 2 => .array .byte
  | 3 => .array .byte
  | 4 => .int
  | 5 => .int
  | 6 => .int
  | 7 => .int
  | 8 => .int
  | 9 => .array .int
  | 10 => .int
  | 11 => .int
  | 12 => .int
  | 13 => .boolean
  | 14 => .boolean
  | 15 => .boolean
  | 16 => .boolean
  | 17 => .array .byte
  | 18 => .int
  | _ => .long
theorem nmX4 : ∀ a, a < 20 → ∀ b, b < 20 → a ≠ b → (TX4 a).2.1 ≠ (TX4 b).2.1 := by decide +kernel
theorem tyX4_ok : ∀ k, k < 20 → parseFieldDescriptor (TX4 k).2.2.1 = some (tyX4 k) := by decide +kernel
def RL : String := "FormatMillLaw"
abbrev cL_law : ByteArray := code
abbrev cX3_init : ByteArray := prog_1_method_1_code
def yX3_init : MethodName := ⟨RX3, "<init>", "()V"⟩
abbrev cX2_init : ByteArray := prog_4_method_1_code
def yX2_init : MethodName := ⟨RX2, "<init>", "(I)V"⟩
abbrev cX1_init : ByteArray := prog_3_method_1_code
def yX1_init : MethodName := ⟨RX1, "<init>", "()V"⟩
abbrev cX0_init : ByteArray := prog_2_method_1_code
def yX0_init : MethodName := ⟨RX0, "<init>", "()V"⟩
abbrev cX3_feed : ByteArray := prog_1_method_2_code
def yX3_feed : MethodName := ⟨RX3, "feed", "(IIIII)Z"⟩
abbrev cX2_hasRoomFor : ByteArray := prog_4_method_5_code
def yX2_hasRoomFor : MethodName := ⟨RX2, "hasRoomFor", "(I)Z"⟩
abbrev cX2_addFourBytes : ByteArray := prog_4_method_7_code
def yX2_addFourBytes : MethodName := ⟨RX2, "addFourBytes", "(I)V"⟩
abbrev cX2_add : ByteArray := prog_4_method_6_code
def yX2_add : MethodName := ⟨RX2, "add", "(I)Z"⟩
abbrev cX3_end : ByteArray := prog_1_method_3_code
def yX3_end : MethodName := ⟨RX3, "end", "(I)Z"⟩
abbrev cX2_shorten : ByteArray := prog_4_method_3_code
def yX2_shorten : MethodName := ⟨RX2, "shorten", "(I)Z"⟩
abbrev cX3_format : ByteArray := prog_1_method_4_code
def yX3_format : MethodName := ⟨RX3, "format", "()I"⟩
abbrev cX2_empty : ByteArray := prog_4_method_2_code
def yX2_empty : MethodName := ⟨RX2, "empty", "()V"⟩
abbrev cX2_addText : ByteArray := prog_4_method_9_code
def yX2_addText : MethodName := ⟨RX2, "addText", "(LFormatMill$Text;)V"⟩
abbrev cX2_at : ByteArray := prog_4_method_4_code
def yX2_at : MethodName := ⟨RX2, "at", "(I)I"⟩
abbrev cX3_argument : ByteArray := prog_1_method_5_code
def yX3_argument : MethodName := ⟨RX3, "argument", "()I"⟩
abbrev cX3_hasRoomForArgument : ByteArray := prog_1_method_10_code
def yX3_hasRoomForArgument : MethodName := ⟨RX3, "hasRoomForArgument", "()Z"⟩
abbrev cX3_nextArgument : ByteArray := prog_1_method_11_code
def yX3_nextArgument : MethodName := ⟨RX3, "nextArgument", "()LFormatMill$Text;"⟩
abbrev cX3_number : ByteArray := prog_1_method_6_code
def yX3_number : MethodName := ⟨RX3, "number", "(J)I"⟩
abbrev cX2_addDecimalDigits : ByteArray := prog_4_method_10_code
def yX2_addDecimalDigits : MethodName := ⟨RX2, "addDecimalDigits", "(J)V"⟩
abbrev cX3_clear : ByteArray := prog_1_method_7_code
def yX3_clear : MethodName := ⟨RX3, "clear", "()V"⟩
abbrev cX3_make : ByteArray := prog_1_method_8_code
def yX3_make : MethodName := ⟨RX3, "make", "()I"⟩
abbrev cX1_read : ByteArray := prog_3_method_2_code
def yX1_read : MethodName := ⟨RX1, "read", "(LFormatMill$Text;I)Z"⟩
abbrev cX1_readFlags : ByteArray := prog_3_method_4_code
def yX1_readFlags : MethodName := ⟨RX1, "readFlags", "(LFormatMill$Text;I)I"⟩
abbrev cX1_setFlag : ByteArray := prog_3_method_5_code
def yX1_setFlag : MethodName := ⟨RX1, "setFlag", "(I)Z"⟩
abbrev cX1_readWidth : ByteArray := prog_3_method_6_code
def yX1_readWidth : MethodName := ⟨RX1, "readWidth", "(LFormatMill$Text;I)I"⟩
abbrev cX3_isDecimalDigit : ByteArray := prog_1_method_15_code
def yX3_isDecimalDigit : MethodName := ⟨RX3, "isDecimalDigit", "(I)Z"⟩
abbrev cX1_isKind : ByteArray := prog_3_method_7_code
def yX1_isKind : MethodName := ⟨RX1, "isKind", "(I)Z"⟩
abbrev cX3_fillPlace : ByteArray := prog_1_method_12_code
def yX3_fillPlace : MethodName := ⟨RX3, "fillPlace", "()I"⟩
abbrev cX3_addPadded : ByteArray := prog_1_method_14_code
def yX3_addPadded : MethodName := ⟨RX3, "addPadded", "(ILFormatMill$Text;Z)I"⟩
abbrev cX2_addMany : ByteArray := prog_4_method_8_code
def yX2_addMany : MethodName := ⟨RX2, "addMany", "(II)V"⟩
abbrev cX0_read : ByteArray := prog_2_method_2_code
def yX0_read : MethodName := ⟨RX0, "read", "(LFormatMill$Text;)Z"⟩
abbrev cX0_readHexadecimal : ByteArray := prog_2_method_3_code
def yX0_readHexadecimal : MethodName := ⟨RX0, "readHexadecimal", "(LFormatMill$Text;IZ)Z"⟩
abbrev cX0_hexadecimalDigit : ByteArray := prog_2_method_6_code
def yX0_hexadecimalDigit : MethodName := ⟨RX0, "hexadecimalDigit", "(I)I"⟩
abbrev cX0_readDecimal : ByteArray := prog_2_method_4_code
def yX0_readDecimal : MethodName := ⟨RX0, "readDecimal", "(LFormatMill$Text;IZ)Z"⟩
abbrev cX0_takeDigitBelowZero : ByteArray := prog_2_method_5_code
def yX0_takeDigitBelowZero : MethodName := ⟨RX0, "takeDigitBelowZero", "(I)Z"⟩
abbrev cX3_fillWithInteger : ByteArray := prog_1_method_13_code
def yX3_fillWithInteger : MethodName := ⟨RX3, "fillWithInteger", "(J)I"⟩
abbrev cX1_signOf : ByteArray := prog_3_method_3_code
def yX1_signOf : MethodName := ⟨RX1, "signOf", "(J)I"⟩
abbrev cX2_addBits : ByteArray := prog_4_method_11_code
def yX2_addBits : MethodName := ⟨RX2, "addBits", "(JIII)V"⟩
abbrev cX3_madeAt : ByteArray := prog_1_method_9_code
def yX3_madeAt : MethodName := ⟨RX3, "madeAt", "(I)I"⟩
abbrev cX4_init : ByteArray := prog_6_method_1_code
def yX4_init : MethodName := ⟨RX4, "<init>", "()V"⟩
abbrev cX4_feed : ByteArray := prog_6_method_3_code
def yX4_feed : MethodName := ⟨RX4, "feed", "(IIIII)Z"⟩
abbrev cX4_lay : ByteArray := prog_6_method_2_code
def yX4_lay : MethodName := ⟨RX4, "lay", "(I)V"⟩
abbrev cX4_end : ByteArray := prog_6_method_4_code
def yX4_end : MethodName := ⟨RX4, "end", "(I)Z"⟩
abbrev cX4_format : ByteArray := prog_6_method_5_code
def yX4_format : MethodName := ⟨RX4, "format", "()I"⟩
abbrev cX4_argument : ByteArray := prog_6_method_6_code
def yX4_argument : MethodName := ⟨RX4, "argument", "()I"⟩
abbrev cX4_number : ByteArray := prog_6_method_7_code
def yX4_number : MethodName := ⟨RX4, "number", "(J)I"⟩
abbrev cX4_decimal : ByteArray := prog_6_method_10_code
def yX4_decimal : MethodName := ⟨RX4, "decimal", "(J)V"⟩
abbrev cX4_digits : ByteArray := prog_6_method_11_code
def yX4_digits : MethodName := ⟨RX4, "digits", "(J)V"⟩
abbrev cX4_ahead : ByteArray := prog_6_method_9_code
def yX4_ahead : MethodName := ⟨RX4, "ahead", "(I)V"⟩
abbrev cX4_clear : ByteArray := prog_6_method_8_code
def yX4_clear : MethodName := ⟨RX4, "clear", "()V"⟩
abbrev cX4_make : ByteArray := prog_6_method_23_code
def yX4_make : MethodName := ⟨RX4, "make", "()I"⟩
abbrev cX4_put : ByteArray := prog_6_method_19_code
def yX4_put : MethodName := ⟨RX4, "put", "(I)Z"⟩
abbrev cX4_readPlace : ByteArray := prog_6_method_18_code
def yX4_readPlace : MethodName := ⟨RX4, "readPlace", "()Z"⟩
abbrev cX4_flag : ByteArray := prog_6_method_17_code
def yX4_flag : MethodName := ⟨RX4, "flag", "()Z"⟩
abbrev cX4_filled : ByteArray := prog_6_method_22_code
def yX4_filled : MethodName := ⟨RX4, "filled", "(I)I"⟩
abbrev cX4_fill : ByteArray := prog_6_method_21_code
def yX4_fill : MethodName := ⟨RX4, "fill", "([BIII)Z"⟩
abbrev cX4_puts : ByteArray := prog_6_method_20_code
def yX4_puts : MethodName := ⟨RX4, "puts", "(II)Z"⟩
abbrev cX4_isInteger : ByteArray := prog_6_method_16_code
def yX4_isInteger : MethodName := ⟨RX4, "isInteger", "(I)Z"⟩
abbrev cX4_isHex : ByteArray := prog_6_method_14_code
def yX4_isHex : MethodName := ⟨RX4, "isHex", "(IIZ)Z"⟩
abbrev cX4_hex : ByteArray := prog_6_method_13_code
def yX4_hex : MethodName := ⟨RX4, "hex", "(I)I"⟩
abbrev cX4_isDecimal : ByteArray := prog_6_method_15_code
def yX4_isDecimal : MethodName := ⟨RX4, "isDecimal", "(IIZ)Z"⟩
abbrev cX4_bits : ByteArray := prog_6_method_12_code
def yX4_bits : MethodName := ⟨RX4, "bits", "(JII)V"⟩
abbrev cX4_madeAt : ByteArray := prog_6_method_24_code
def yX4_madeAt : MethodName := ⟨RX4, "madeAt", "(I)I"⟩
abbrev vwCl : List vw_C := [(RX0, TX0, 1), (RX1, TX1, 7), (RX2, TX2, 2), (RX3, TX3, 9), (RX4, TX4, 20)]
/-- one list of words for all methods: the good words of the tables -/
def WSa : List Cond := lw_tbl.filter goodWord
theorem WSa_in {w : Cond} (i : Nat) (h : lw_tbl[i]? = some w) (hg : goodWord w = true) : w ∈ WSa := List.mem_filter.mpr ⟨List.mem_of_getElem? h, hg⟩
theorem WSa_good : ∀ w ∈ WSa, (w.onTables && w.keeps) = true ∨ ∃ ty, w = .arrayClass ty := fun _ h => good_of_word (List.mem_filter.mp h).2
theorem WSa_tbl : ∀ w ∈ WSa, w ∈ lw_tbl := fun _ h => (List.mem_filter.mp h).1
theorem gW {y : MethodName} {b : ByteArray} {n : Nat} {r : Option FieldType} (h5 : Cond.code y b n r ∈ WSa) : GoodIn WSa (Cond.code y b n r :: WSa) := fun w hw => by
  rcases List.mem_cons.mp hw with h | h
  · subst h; exact ⟨h5, WSa_good _ h5⟩
  · exact ⟨h, WSa_good _ h⟩
theorem gV {own C : String} {idx : Nat} {y : MethodName} {b : ByteArray} {n : Nat} {r : Option FieldType} (h1 : Cond.methodLink own idx y ∈ WSa) (h2 : Cond.instanceMethod y ∈ WSa) (h3 : Cond.selects C y y ∈ WSa) (h4 : Cond.initialized C ∈ WSa) (h5 : Cond.code y b n r ∈ WSa) : GoodIn WSa (wsV own idx C y (Cond.code y b n r :: WSa)) := fun w hw => by
  unfold wsV at hw
  rcases List.mem_append.mp hw with h | h
  · simp only [List.mem_cons, List.not_mem_nil, or_false] at h
    rcases h with rfl | rfl | rfl | rfl
    · exact ⟨h1, WSa_good _ h1⟩
    · exact ⟨h2, WSa_good _ h2⟩
    · exact ⟨h3, WSa_good _ h3⟩
    · exact ⟨h4, WSa_good _ h4⟩
  · exact gW h5 w h
theorem gS {own : String} {idx : Nat} {y : MethodName} {b : ByteArray} {n : Nat} {r : Option FieldType} (h1 : Cond.methodLink own idx y ∈ WSa) (h2 : Cond.static y ∈ WSa) (h4 : Cond.initialized own ∈ WSa) (h5 : Cond.code y b n r ∈ WSa) : GoodIn WSa (wsS own idx y (Cond.code y b n r :: WSa)) := fun w hw => by
  unfold wsS at hw
  rcases List.mem_append.mp hw with h | h
  · simp only [List.mem_cons, List.not_mem_nil, or_false] at h
    rcases h with rfl | rfl | rfl
    · exact ⟨h1, WSa_good _ h1⟩
    · exact ⟨h2, WSa_good _ h2⟩
    · exact ⟨h4, WSa_good _ h4⟩
  · exact gW h5 w h
abbrev wsX3_init : List Cond := Cond.code yX3_init cX3_init 2 none :: WSa
abbrev wsX2_init : List Cond := Cond.code yX2_init cX2_init 2 none :: WSa
abbrev wsX1_init : List Cond := Cond.code yX1_init cX1_init 1 none :: WSa
abbrev wsX0_init : List Cond := Cond.code yX0_init cX0_init 1 none :: WSa
abbrev wsX3_feed : List Cond := Cond.code yX3_feed cX3_feed 6 (some .boolean) :: WSa
abbrev wsX2_hasRoomFor : List Cond := Cond.code yX2_hasRoomFor cX2_hasRoomFor 2 (some .boolean) :: WSa
abbrev wsX2_addFourBytes : List Cond := Cond.code yX2_addFourBytes cX2_addFourBytes 2 none :: WSa
abbrev wsX2_add : List Cond := Cond.code yX2_add cX2_add 2 (some .boolean) :: WSa
abbrev wsX3_end : List Cond := Cond.code yX3_end cX3_end 2 (some .boolean) :: WSa
abbrev wsX2_shorten : List Cond := Cond.code yX2_shorten cX2_shorten 2 (some .boolean) :: WSa
abbrev wsX3_format : List Cond := Cond.code yX3_format cX3_format 1 (some .int) :: WSa
abbrev wsX2_empty : List Cond := Cond.code yX2_empty cX2_empty 1 none :: WSa
abbrev wsX2_addText : List Cond := Cond.code yX2_addText cX2_addText 4 none :: WSa
abbrev wsX2_at : List Cond := Cond.code yX2_at cX2_at 2 (some .int) :: WSa
abbrev wsX3_argument : List Cond := Cond.code yX3_argument cX3_argument 2 (some .int) :: WSa
abbrev wsX3_hasRoomForArgument : List Cond := Cond.code yX3_hasRoomForArgument cX3_hasRoomForArgument 1 (some .boolean) :: WSa
abbrev wsX3_nextArgument : List Cond := Cond.code yX3_nextArgument cX3_nextArgument 2 (some (.object "FormatMill$Text")) :: WSa
abbrev wsX3_number : List Cond := Cond.code yX3_number cX3_number 4 (some .int) :: WSa
abbrev wsX2_addDecimalDigits : List Cond := Cond.code yX2_addDecimalDigits cX2_addDecimalDigits 7 none :: WSa
abbrev wsX3_clear : List Cond := Cond.code yX3_clear cX3_clear 1 none :: WSa
abbrev wsX3_make : List Cond := Cond.code yX3_make cX3_make 4 (some .int) :: WSa
abbrev wsX1_read : List Cond := Cond.code yX1_read cX1_read 5 (some .boolean) :: WSa
abbrev wsX1_readFlags : List Cond := Cond.code yX1_readFlags cX1_readFlags 4 (some .int) :: WSa
abbrev wsX1_setFlag : List Cond := Cond.code yX1_setFlag cX1_setFlag 2 (some .boolean) :: WSa
abbrev wsX1_readWidth : List Cond := Cond.code yX1_readWidth cX1_readWidth 4 (some .int) :: WSa
abbrev wsX3_isDecimalDigit : List Cond := Cond.code yX3_isDecimalDigit cX3_isDecimalDigit 1 (some .boolean) :: WSa
abbrev wsX1_isKind : List Cond := Cond.code yX1_isKind cX1_isKind 1 (some .boolean) :: WSa
abbrev wsX3_fillPlace : List Cond := Cond.code yX3_fillPlace cX3_fillPlace 2 (some .int) :: WSa
abbrev wsX3_addPadded : List Cond := Cond.code yX3_addPadded cX3_addPadded 7 (some .int) :: WSa
abbrev wsX2_addMany : List Cond := Cond.code yX2_addMany cX2_addMany 4 none :: WSa
abbrev wsX0_read : List Cond := Cond.code yX0_read cX0_read 4 (some .boolean) :: WSa
abbrev wsX0_readHexadecimal : List Cond := Cond.code yX0_readHexadecimal cX0_readHexadecimal 7 (some .boolean) :: WSa
abbrev wsX0_hexadecimalDigit : List Cond := Cond.code yX0_hexadecimalDigit cX0_hexadecimalDigit 1 (some .int) :: WSa
abbrev wsX0_readDecimal : List Cond := Cond.code yX0_readDecimal cX0_readDecimal 6 (some .boolean) :: WSa
abbrev wsX0_takeDigitBelowZero : List Cond := Cond.code yX0_takeDigitBelowZero cX0_takeDigitBelowZero 2 (some .boolean) :: WSa
abbrev wsX3_fillWithInteger : List Cond := Cond.code yX3_fillWithInteger cX3_fillWithInteger 3 (some .int) :: WSa
abbrev wsX1_signOf : List Cond := Cond.code yX1_signOf cX1_signOf 3 (some .int) :: WSa
abbrev wsX2_addBits : List Cond := Cond.code yX2_addBits cX2_addBits 10 none :: WSa
abbrev wsX3_madeAt : List Cond := Cond.code yX3_madeAt cX3_madeAt 2 (some .int) :: WSa
abbrev wsX4_init : List Cond := Cond.code yX4_init cX4_init 1 none :: WSa
abbrev wsX4_feed : List Cond := Cond.code yX4_feed cX4_feed 6 (some .boolean) :: WSa
abbrev wsX4_lay : List Cond := Cond.code yX4_lay cX4_lay 3 none :: WSa
abbrev wsX4_end : List Cond := Cond.code yX4_end cX4_end 2 (some .boolean) :: WSa
abbrev wsX4_format : List Cond := Cond.code yX4_format cX4_format 2 (some .int) :: WSa
abbrev wsX4_argument : List Cond := Cond.code yX4_argument cX4_argument 3 (some .int) :: WSa
abbrev wsX4_number : List Cond := Cond.code yX4_number cX4_number 5 (some .int) :: WSa
abbrev wsX4_decimal : List Cond := Cond.code yX4_decimal cX4_decimal 3 none :: WSa
abbrev wsX4_digits : List Cond := Cond.code yX4_digits cX4_digits 7 none :: WSa
abbrev wsX4_ahead : List Cond := Cond.code yX4_ahead cX4_ahead 2 none :: WSa
abbrev wsX4_clear : List Cond := Cond.code yX4_clear cX4_clear 1 none :: WSa
abbrev wsX4_make : List Cond := Cond.code yX4_make cX4_make 4 (some .int) :: WSa
abbrev wsX4_put : List Cond := Cond.code yX4_put cX4_put 2 (some .boolean) :: WSa
abbrev wsX4_readPlace : List Cond := Cond.code yX4_readPlace cX4_readPlace 1 (some .boolean) :: WSa
abbrev wsX4_flag : List Cond := Cond.code yX4_flag cX4_flag 2 (some .boolean) :: WSa
abbrev wsX4_filled : List Cond := Cond.code yX4_filled cX4_filled 3 (some .int) :: WSa
abbrev wsX4_fill : List Cond := Cond.code yX4_fill cX4_fill 10 (some .boolean) :: WSa
abbrev wsX4_puts : List Cond := Cond.code yX4_puts cX4_puts 5 (some .boolean) :: WSa
abbrev wsX4_isInteger : List Cond := Cond.code yX4_isInteger cX4_isInteger 7 (some .boolean) :: WSa
abbrev wsX4_isHex : List Cond := Cond.code yX4_isHex cX4_isHex 9 (some .boolean) :: WSa
abbrev wsX4_hex : List Cond := Cond.code yX4_hex cX4_hex 1 (some .int) :: WSa
abbrev wsX4_isDecimal : List Cond := Cond.code yX4_isDecimal cX4_isDecimal 9 (some .boolean) :: WSa
abbrev wsX4_bits : List Cond := Cond.code yX4_bits cX4_bits 8 none :: WSa
abbrev wsX4_madeAt : List Cond := Cond.code yX4_madeAt cX4_madeAt 2 (some .int) :: WSa
theorem ws_0 : Cond.selects RX3 yX3_hasRoomForArgument yX3_hasRoomForArgument ∈ WSa := WSa_in 0 rfl rfl
theorem ws_1 : Cond.selects RX3 yX3_nextArgument yX3_nextArgument ∈ WSa := WSa_in 1 rfl rfl
theorem ws_2 : Cond.selects RX1 yX1_readFlags yX1_readFlags ∈ WSa := WSa_in 2 rfl rfl
theorem ws_3 : Cond.selects RX1 yX1_setFlag yX1_setFlag ∈ WSa := WSa_in 3 rfl rfl
theorem ws_4 : Cond.selects RX1 yX1_readWidth yX1_readWidth ∈ WSa := WSa_in 4 rfl rfl
theorem ws_5 : Cond.selects RX3 yX3_fillPlace yX3_fillPlace ∈ WSa := WSa_in 5 rfl rfl
theorem ws_6 : Cond.selects RX3 yX3_addPadded yX3_addPadded ∈ WSa := WSa_in 6 rfl rfl
theorem ws_7 : Cond.selects RX0 yX0_readHexadecimal yX0_readHexadecimal ∈ WSa := WSa_in 7 rfl rfl
theorem ws_8 : Cond.selects RX0 yX0_readDecimal yX0_readDecimal ∈ WSa := WSa_in 8 rfl rfl
theorem ws_9 : Cond.selects RX0 yX0_takeDigitBelowZero yX0_takeDigitBelowZero ∈ WSa := WSa_in 9 rfl rfl
theorem ws_10 : Cond.selects RX3 yX3_fillWithInteger yX3_fillWithInteger ∈ WSa := WSa_in 10 rfl rfl
theorem ws_11 : Cond.selects RX4 yX4_lay yX4_lay ∈ WSa := WSa_in 11 rfl rfl
theorem ws_12 : Cond.selects RX4 yX4_decimal yX4_decimal ∈ WSa := WSa_in 12 rfl rfl
theorem ws_13 : Cond.selects RX4 yX4_digits yX4_digits ∈ WSa := WSa_in 13 rfl rfl
theorem ws_14 : Cond.selects RX4 yX4_ahead yX4_ahead ∈ WSa := WSa_in 14 rfl rfl
theorem ws_15 : Cond.selects RX4 yX4_put yX4_put ∈ WSa := WSa_in 15 rfl rfl
theorem ws_16 : Cond.selects RX4 yX4_readPlace yX4_readPlace ∈ WSa := WSa_in 16 rfl rfl
theorem ws_17 : Cond.selects RX4 yX4_flag yX4_flag ∈ WSa := WSa_in 17 rfl rfl
theorem ws_18 : Cond.selects RX4 yX4_filled yX4_filled ∈ WSa := WSa_in 18 rfl rfl
theorem ws_19 : Cond.selects RX4 yX4_fill yX4_fill ∈ WSa := WSa_in 19 rfl rfl
theorem ws_20 : Cond.selects RX4 yX4_puts yX4_puts ∈ WSa := WSa_in 20 rfl rfl
theorem ws_21 : Cond.selects RX4 yX4_isInteger yX4_isInteger ∈ WSa := WSa_in 21 rfl rfl
theorem ws_22 : Cond.selects RX4 yX4_isHex yX4_isHex ∈ WSa := WSa_in 22 rfl rfl
theorem ws_23 : Cond.selects RX4 yX4_isDecimal yX4_isDecimal ∈ WSa := WSa_in 23 rfl rfl
theorem ws_24 : Cond.selects RX4 yX4_bits yX4_bits ∈ WSa := WSa_in 24 rfl rfl
theorem wm_0 : (Jvm.Cond.initialized "FormatMillLaw") ∈ WSa := WSa_in 25 rfl rfl
theorem wm_1 : (Jvm.Cond.initialized "FormatMill") ∈ WSa := WSa_in 26 rfl rfl
theorem wm_2 : (Jvm.Cond.initialized "FormatMill$Text") ∈ WSa := WSa_in 27 rfl rfl
theorem wm_3 : (Jvm.Cond.initialized "FormatMill$Place") ∈ WSa := WSa_in 28 rfl rfl
theorem wm_4 : (Jvm.Cond.initialized "FormatMill$Numeral") ∈ WSa := WSa_in 29 rfl rfl
theorem wm_5 : (Jvm.Cond.initialized "FormatMillModel") ∈ WSa := WSa_in 30 rfl rfl
theorem wm_6 : (Jvm.Cond.initialized "java/lang/Math") ∈ WSa := WSa_in 31 rfl rfl
theorem wm_7 : (Jvm.Cond.classLink "FormatMillLaw" (7 : Nat) "FormatMill") ∈ WSa := WSa_in 32 rfl rfl
theorem wm_8 : (Jvm.Cond.instantiable "FormatMill" (9 : Nat)) ∈ WSa := WSa_in 33 rfl rfl
theorem wm_9 : (Jvm.Cond.methodLink "FormatMillLaw" (9 : Nat) yX3_init) ∈ WSa := WSa_in 34 rfl rfl
theorem wm_10 : (Jvm.Cond.instanceMethod yX3_init) ∈ WSa := WSa_in 35 rfl rfl
theorem wm_11 : (Jvm.Cond.code yX3_init prog_1_method_1_code (2 : Nat) (Option.none : Option Jvm.ClassFile.FieldType)) ∈ WSa := WSa_in 36 rfl rfl
theorem wm_12 : (Jvm.Cond.methodLink "FormatMill" (1 : Nat) objectInit) ∈ WSa := WSa_in 37 rfl rfl
theorem wm_13 : (Jvm.Cond.instanceMethod objectInit) ∈ WSa := WSa_in 38 rfl rfl
theorem wm_14 : (Jvm.Cond.code objectInit object_method_1_code (1 : Nat) (Option.none : Option Jvm.ClassFile.FieldType)) ∈ WSa := WSa_in 39 rfl rfl
theorem wm_15 : (Jvm.Cond.classLink "FormatMill" (7 : Nat) "FormatMill$Text") ∈ WSa := WSa_in 40 rfl rfl
theorem wm_16 : (Jvm.Cond.instantiable "FormatMill$Text" (2 : Nat)) ∈ WSa := WSa_in 41 rfl rfl
theorem wm_17 : (Jvm.Cond.methodLink "FormatMill" (11 : Nat) yX2_init) ∈ WSa := WSa_in 42 rfl rfl
theorem wm_18 : (Jvm.Cond.instanceMethod yX2_init) ∈ WSa := WSa_in 43 rfl rfl
theorem wm_19 : (Jvm.Cond.code yX2_init prog_4_method_1_code (2 : Nat) (Option.none : Option Jvm.ClassFile.FieldType)) ∈ WSa := WSa_in 44 rfl rfl
theorem wm_20 : (Jvm.Cond.methodLink "FormatMill$Text" (3 : Nat) objectInit) ∈ WSa := WSa_in 45 rfl rfl
theorem wm_21 : (Jvm.Cond.fieldLink "FormatMill$Text" (9 : Nat) "FormatMill$Text" "bytes" "[I") ∈ WSa := WSa_in 46 rfl rfl
theorem wm_22 : (Jvm.Cond.fieldLink "FormatMill$Text" (15 : Nat) "FormatMill$Text" "length" "I") ∈ WSa := WSa_in 47 rfl rfl
theorem wm_26 : (Jvm.Cond.laysFinal "FormatMill$Text" "FormatMill$Text" "bytes" "[I") ∈ WSa := WSa_in 51 rfl rfl
theorem wm_28 : (Jvm.Cond.lays "FormatMill$Text" "FormatMill$Text" "length" "I") ∈ WSa := WSa_in 53 rfl rfl
theorem wm_31 : (Jvm.Cond.arrayClass Jvm.ClassFile.FieldType.int) ∈ WSa := WSa_in 56 rfl rfl
theorem wm_33 : (Jvm.Cond.classLink "FormatMill" (35 : Nat) "FormatMill$Place") ∈ WSa := WSa_in 58 rfl rfl
theorem wm_34 : (Jvm.Cond.instantiable "FormatMill$Place" (7 : Nat)) ∈ WSa := WSa_in 59 rfl rfl
theorem wm_35 : (Jvm.Cond.methodLink "FormatMill" (37 : Nat) yX1_init) ∈ WSa := WSa_in 60 rfl rfl
theorem wm_36 : (Jvm.Cond.instanceMethod yX1_init) ∈ WSa := WSa_in 61 rfl rfl
theorem wm_37 : (Jvm.Cond.code yX1_init prog_3_method_1_code (1 : Nat) (Option.none : Option Jvm.ClassFile.FieldType)) ∈ WSa := WSa_in 62 rfl rfl
theorem wm_38 : (Jvm.Cond.methodLink "FormatMill$Place" (3 : Nat) objectInit) ∈ WSa := WSa_in 63 rfl rfl
theorem wm_39 : (Jvm.Cond.fieldLink "FormatMill$Place" (42 : Nat) "FormatMill$Place" "left" "Z") ∈ WSa := WSa_in 64 rfl rfl
theorem wm_41 : (Jvm.Cond.fieldLink "FormatMill$Place" (45 : Nat) "FormatMill$Place" "zeros" "Z") ∈ WSa := WSa_in 66 rfl rfl
theorem wm_43 : (Jvm.Cond.fieldLink "FormatMill$Place" (35 : Nat) "FormatMill$Place" "plus" "Z") ∈ WSa := WSa_in 68 rfl rfl
theorem wm_44 : (Jvm.Cond.fieldLink "FormatMill$Place" (39 : Nat) "FormatMill$Place" "blank" "Z") ∈ WSa := WSa_in 69 rfl rfl
theorem wm_45 : (Jvm.Cond.fieldLink "FormatMill$Place" (54 : Nat) "FormatMill$Place" "width" "I") ∈ WSa := WSa_in 70 rfl rfl
theorem wm_47 : (Jvm.Cond.fieldLink "FormatMill$Place" (9 : Nat) "FormatMill$Place" "kind" "I") ∈ WSa := WSa_in 72 rfl rfl
theorem wm_49 : (Jvm.Cond.fieldLink "FormatMill$Place" (28 : Nat) "FormatMill$Place" "behind" "I") ∈ WSa := WSa_in 74 rfl rfl
theorem wm_51 : (Jvm.Cond.lays "FormatMill$Place" "FormatMill$Place" "left" "Z") ∈ WSa := WSa_in 76 rfl rfl
theorem wm_53 : (Jvm.Cond.lays "FormatMill$Place" "FormatMill$Place" "zeros" "Z") ∈ WSa := WSa_in 78 rfl rfl
theorem wm_55 : (Jvm.Cond.lays "FormatMill$Place" "FormatMill$Place" "plus" "Z") ∈ WSa := WSa_in 80 rfl rfl
theorem wm_57 : (Jvm.Cond.lays "FormatMill$Place" "FormatMill$Place" "blank" "Z") ∈ WSa := WSa_in 82 rfl rfl
theorem wm_59 : (Jvm.Cond.lays "FormatMill$Place" "FormatMill$Place" "width" "I") ∈ WSa := WSa_in 84 rfl rfl
theorem wm_61 : (Jvm.Cond.lays "FormatMill$Place" "FormatMill$Place" "kind" "I") ∈ WSa := WSa_in 86 rfl rfl
theorem wm_63 : (Jvm.Cond.lays "FormatMill$Place" "FormatMill$Place" "behind" "I") ∈ WSa := WSa_in 88 rfl rfl
theorem wm_66 : (Jvm.Cond.classLink "FormatMill" (42 : Nat) "FormatMill$Numeral") ∈ WSa := WSa_in 91 rfl rfl
theorem wm_67 : (Jvm.Cond.instantiable "FormatMill$Numeral" (1 : Nat)) ∈ WSa := WSa_in 92 rfl rfl
theorem wm_68 : (Jvm.Cond.methodLink "FormatMill" (44 : Nat) yX0_init) ∈ WSa := WSa_in 93 rfl rfl
theorem wm_69 : (Jvm.Cond.instanceMethod yX0_init) ∈ WSa := WSa_in 94 rfl rfl
theorem wm_70 : (Jvm.Cond.code yX0_init prog_2_method_1_code (1 : Nat) (Option.none : Option Jvm.ClassFile.FieldType)) ∈ WSa := WSa_in 95 rfl rfl
theorem wm_71 : (Jvm.Cond.methodLink "FormatMill$Numeral" (3 : Nat) objectInit) ∈ WSa := WSa_in 96 rfl rfl
theorem wm_72 : (Jvm.Cond.fieldLink "FormatMill$Numeral" (9 : Nat) "FormatMill$Numeral" "value" "J") ∈ WSa := WSa_in 97 rfl rfl
theorem wm_74 : (Jvm.Cond.lays "FormatMill$Numeral" "FormatMill$Numeral" "value" "J") ∈ WSa := WSa_in 99 rfl rfl
theorem wm_77 : (Jvm.Cond.fieldLink "FormatMill" (14 : Nat) "FormatMill" "tape" "LFormatMill$Text;") ∈ WSa := WSa_in 102 rfl rfl
theorem wm_78 : (Jvm.Cond.fieldLink "FormatMill" (18 : Nat) "FormatMill" "pattern" "LFormatMill$Text;") ∈ WSa := WSa_in 103 rfl rfl
theorem wm_79 : (Jvm.Cond.fieldLink "FormatMill" (21 : Nat) "FormatMill" "made" "LFormatMill$Text;") ∈ WSa := WSa_in 104 rfl rfl
theorem wm_80 : (Jvm.Cond.fieldLink "FormatMill" (24 : Nat) "FormatMill" "arguments" "[LFormatMill$Text;") ∈ WSa := WSa_in 105 rfl rfl
theorem wm_81 : (Jvm.Cond.fieldLink "FormatMill" (28 : Nat) "FormatMill" "argumentCount" "I") ∈ WSa := WSa_in 106 rfl rfl
theorem wm_82 : (Jvm.Cond.fieldLink "FormatMill" (32 : Nat) "FormatMill" "taken" "I") ∈ WSa := WSa_in 107 rfl rfl
theorem wm_83 : (Jvm.Cond.fieldLink "FormatMill" (38 : Nat) "FormatMill" "place" "LFormatMill$Place;") ∈ WSa := WSa_in 108 rfl rfl
theorem wm_84 : (Jvm.Cond.fieldLink "FormatMill" (45 : Nat) "FormatMill" "numeral" "LFormatMill$Numeral;") ∈ WSa := WSa_in 109 rfl rfl
theorem wm_85 : (Jvm.Cond.fieldLink "FormatMill" (49 : Nat) "FormatMill" "digits" "LFormatMill$Text;") ∈ WSa := WSa_in 110 rfl rfl
theorem wm_86 : (Jvm.Cond.laysFinal "FormatMill" "FormatMill" "tape" "LFormatMill$Text;") ∈ WSa := WSa_in 111 rfl rfl
theorem wm_88 : (Jvm.Cond.laysFinal "FormatMill" "FormatMill" "pattern" "LFormatMill$Text;") ∈ WSa := WSa_in 113 rfl rfl
theorem wm_90 : (Jvm.Cond.laysFinal "FormatMill" "FormatMill" "made" "LFormatMill$Text;") ∈ WSa := WSa_in 115 rfl rfl
theorem wm_92 : (Jvm.Cond.laysFinal "FormatMill" "FormatMill" "arguments" "[LFormatMill$Text;") ∈ WSa := WSa_in 117 rfl rfl
theorem wm_94 : (Jvm.Cond.lays "FormatMill" "FormatMill" "argumentCount" "I") ∈ WSa := WSa_in 119 rfl rfl
theorem wm_96 : (Jvm.Cond.lays "FormatMill" "FormatMill" "taken" "I") ∈ WSa := WSa_in 121 rfl rfl
theorem wm_98 : (Jvm.Cond.laysFinal "FormatMill" "FormatMill" "place" "LFormatMill$Place;") ∈ WSa := WSa_in 123 rfl rfl
theorem wm_100 : (Jvm.Cond.laysFinal "FormatMill" "FormatMill" "numeral" "LFormatMill$Numeral;") ∈ WSa := WSa_in 125 rfl rfl
theorem wm_102 : (Jvm.Cond.laysFinal "FormatMill" "FormatMill" "digits" "LFormatMill$Text;") ∈ WSa := WSa_in 127 rfl rfl
theorem wm_105 : (Jvm.Cond.methodLink "FormatMillLaw" (13 : Nat) yX3_feed) ∈ WSa := WSa_in 130 rfl rfl
theorem wm_106 : (Jvm.Cond.instanceMethod yX3_feed) ∈ WSa := WSa_in 131 rfl rfl
theorem wm_107 : (Jvm.Cond.selects "FormatMill" yX3_feed yX3_feed) ∈ WSa := WSa_in 132 rfl rfl
theorem wm_108 : (Jvm.Cond.code yX3_feed prog_1_method_2_code (6 : Nat) (Option.some Jvm.ClassFile.FieldType.boolean)) ∈ WSa := WSa_in 133 rfl rfl
theorem wm_109 : (Jvm.Cond.methodLink "FormatMill" (52 : Nat) yX2_hasRoomFor) ∈ WSa := WSa_in 134 rfl rfl
theorem wm_110 : (Jvm.Cond.instanceMethod yX2_hasRoomFor) ∈ WSa := WSa_in 135 rfl rfl
theorem wm_111 : (Jvm.Cond.selects "FormatMill$Text" yX2_hasRoomFor yX2_hasRoomFor) ∈ WSa := WSa_in 136 rfl rfl
theorem wm_112 : (Jvm.Cond.code yX2_hasRoomFor prog_4_method_5_code (2 : Nat) (Option.some Jvm.ClassFile.FieldType.boolean)) ∈ WSa := WSa_in 137 rfl rfl
theorem wm_113 : (Jvm.Cond.methodLink "FormatMill" (56 : Nat) yX2_addFourBytes) ∈ WSa := WSa_in 138 rfl rfl
theorem wm_114 : (Jvm.Cond.instanceMethod yX2_addFourBytes) ∈ WSa := WSa_in 139 rfl rfl
theorem wm_115 : (Jvm.Cond.selects "FormatMill$Text" yX2_addFourBytes yX2_addFourBytes) ∈ WSa := WSa_in 140 rfl rfl
theorem wm_116 : (Jvm.Cond.code yX2_addFourBytes prog_4_method_7_code (2 : Nat) (Option.none : Option Jvm.ClassFile.FieldType)) ∈ WSa := WSa_in 141 rfl rfl
theorem wm_117 : (Jvm.Cond.methodLink "FormatMill$Text" (19 : Nat) yX2_add) ∈ WSa := WSa_in 142 rfl rfl
theorem wm_118 : (Jvm.Cond.instanceMethod yX2_add) ∈ WSa := WSa_in 143 rfl rfl
theorem wm_119 : (Jvm.Cond.selects "FormatMill$Text" yX2_add yX2_add) ∈ WSa := WSa_in 144 rfl rfl
theorem wm_120 : (Jvm.Cond.code yX2_add prog_4_method_6_code (2 : Nat) (Option.some Jvm.ClassFile.FieldType.boolean)) ∈ WSa := WSa_in 145 rfl rfl
theorem wm_121 : (Jvm.Cond.methodLink "FormatMillLaw" (18 : Nat) yX3_end) ∈ WSa := WSa_in 146 rfl rfl
theorem wm_122 : (Jvm.Cond.instanceMethod yX3_end) ∈ WSa := WSa_in 147 rfl rfl
theorem wm_123 : (Jvm.Cond.selects "FormatMill" yX3_end yX3_end) ∈ WSa := WSa_in 148 rfl rfl
theorem wm_124 : (Jvm.Cond.code yX3_end prog_1_method_3_code (2 : Nat) (Option.some Jvm.ClassFile.FieldType.boolean)) ∈ WSa := WSa_in 149 rfl rfl
theorem wm_125 : (Jvm.Cond.methodLink "FormatMill" (59 : Nat) yX2_shorten) ∈ WSa := WSa_in 150 rfl rfl
theorem wm_126 : (Jvm.Cond.instanceMethod yX2_shorten) ∈ WSa := WSa_in 151 rfl rfl
theorem wm_127 : (Jvm.Cond.selects "FormatMill$Text" yX2_shorten yX2_shorten) ∈ WSa := WSa_in 152 rfl rfl
theorem wm_128 : (Jvm.Cond.code yX2_shorten prog_4_method_3_code (2 : Nat) (Option.some Jvm.ClassFile.FieldType.boolean)) ∈ WSa := WSa_in 153 rfl rfl
theorem wm_129 : (Jvm.Cond.methodLink "FormatMillLaw" (23 : Nat) yX3_format) ∈ WSa := WSa_in 154 rfl rfl
theorem wm_130 : (Jvm.Cond.instanceMethod yX3_format) ∈ WSa := WSa_in 155 rfl rfl
theorem wm_131 : (Jvm.Cond.selects "FormatMill" yX3_format yX3_format) ∈ WSa := WSa_in 156 rfl rfl
theorem wm_132 : (Jvm.Cond.code yX3_format prog_1_method_4_code (1 : Nat) (Option.some Jvm.ClassFile.FieldType.int)) ∈ WSa := WSa_in 157 rfl rfl
theorem wm_133 : (Jvm.Cond.methodLink "FormatMill" (62 : Nat) yX2_empty) ∈ WSa := WSa_in 158 rfl rfl
theorem wm_134 : (Jvm.Cond.instanceMethod yX2_empty) ∈ WSa := WSa_in 159 rfl rfl
theorem wm_135 : (Jvm.Cond.selects "FormatMill$Text" yX2_empty yX2_empty) ∈ WSa := WSa_in 160 rfl rfl
theorem wm_136 : (Jvm.Cond.code yX2_empty prog_4_method_2_code (1 : Nat) (Option.none : Option Jvm.ClassFile.FieldType)) ∈ WSa := WSa_in 161 rfl rfl
theorem wm_137 : (Jvm.Cond.methodLink "FormatMill" (65 : Nat) yX2_addText) ∈ WSa := WSa_in 162 rfl rfl
theorem wm_138 : (Jvm.Cond.instanceMethod yX2_addText) ∈ WSa := WSa_in 163 rfl rfl
theorem wm_139 : (Jvm.Cond.selects "FormatMill$Text" yX2_addText yX2_addText) ∈ WSa := WSa_in 164 rfl rfl
theorem wm_140 : (Jvm.Cond.code yX2_addText prog_4_method_9_code (4 : Nat) (Option.none : Option Jvm.ClassFile.FieldType)) ∈ WSa := WSa_in 165 rfl rfl
theorem wm_141 : (Jvm.Cond.methodLink "FormatMill$Text" (23 : Nat) yX2_at) ∈ WSa := WSa_in 166 rfl rfl
theorem wm_142 : (Jvm.Cond.instanceMethod yX2_at) ∈ WSa := WSa_in 167 rfl rfl
theorem wm_143 : (Jvm.Cond.selects "FormatMill$Text" yX2_at yX2_at) ∈ WSa := WSa_in 168 rfl rfl
theorem wm_144 : (Jvm.Cond.code yX2_at prog_4_method_4_code (2 : Nat) (Option.some Jvm.ClassFile.FieldType.int)) ∈ WSa := WSa_in 169 rfl rfl
theorem wm_145 : (Jvm.Cond.methodLink "FormatMillLaw" (28 : Nat) yX3_argument) ∈ WSa := WSa_in 170 rfl rfl
theorem wm_146 : (Jvm.Cond.instanceMethod yX3_argument) ∈ WSa := WSa_in 171 rfl rfl
theorem wm_147 : (Jvm.Cond.selects "FormatMill" yX3_argument yX3_argument) ∈ WSa := WSa_in 172 rfl rfl
theorem wm_148 : (Jvm.Cond.code yX3_argument prog_1_method_5_code (2 : Nat) (Option.some Jvm.ClassFile.FieldType.int)) ∈ WSa := WSa_in 173 rfl rfl
theorem wm_149 : (Jvm.Cond.methodLink "FormatMill" (72 : Nat) yX3_hasRoomForArgument) ∈ WSa := WSa_in 174 rfl rfl
theorem wm_151 : (Jvm.Cond.instanceMethod yX3_hasRoomForArgument) ∈ WSa := WSa_in 176 rfl rfl
theorem wm_152 : (Jvm.Cond.code yX3_hasRoomForArgument prog_1_method_10_code (1 : Nat) (Option.some Jvm.ClassFile.FieldType.boolean)) ∈ WSa := WSa_in 177 rfl rfl
theorem wm_153 : (Jvm.Cond.methodLink "FormatMill" (76 : Nat) yX3_nextArgument) ∈ WSa := WSa_in 178 rfl rfl
theorem wm_155 : (Jvm.Cond.instanceMethod yX3_nextArgument) ∈ WSa := WSa_in 180 rfl rfl
theorem wm_156 : (Jvm.Cond.code yX3_nextArgument prog_1_method_11_code (2 : Nat) (Option.some (Jvm.ClassFile.FieldType.object "FormatMill$Text"))) ∈ WSa := WSa_in 181 rfl rfl
theorem wm_157 : (Jvm.Cond.methodLink "FormatMillLaw" (34 : Nat) yX3_number) ∈ WSa := WSa_in 182 rfl rfl
theorem wm_158 : (Jvm.Cond.instanceMethod yX3_number) ∈ WSa := WSa_in 183 rfl rfl
theorem wm_159 : (Jvm.Cond.selects "FormatMill" yX3_number yX3_number) ∈ WSa := WSa_in 184 rfl rfl
theorem wm_160 : (Jvm.Cond.code yX3_number prog_1_method_6_code (4 : Nat) (Option.some Jvm.ClassFile.FieldType.int)) ∈ WSa := WSa_in 185 rfl rfl
theorem wm_161 : (Jvm.Cond.methodLink "FormatMill" (80 : Nat) yX2_add) ∈ WSa := WSa_in 186 rfl rfl
theorem wm_162 : (Jvm.Cond.methodLink "FormatMill" (83 : Nat) yX2_addDecimalDigits) ∈ WSa := WSa_in 187 rfl rfl
theorem wm_163 : (Jvm.Cond.instanceMethod yX2_addDecimalDigits) ∈ WSa := WSa_in 188 rfl rfl
theorem wm_164 : (Jvm.Cond.selects "FormatMill$Text" yX2_addDecimalDigits yX2_addDecimalDigits) ∈ WSa := WSa_in 189 rfl rfl
theorem wm_165 : (Jvm.Cond.code yX2_addDecimalDigits prog_4_method_10_code (7 : Nat) (Option.none : Option Jvm.ClassFile.FieldType)) ∈ WSa := WSa_in 190 rfl rfl
theorem wm_166 : (Jvm.Cond.constantLong "FormatMill$Text" (27 : Nat) (1000000000000000000 : Int64)) ∈ WSa := WSa_in 191 rfl rfl
theorem wm_167 : (Jvm.Cond.constantLong "FormatMill$Text" (29 : Nat) (10 : Int64)) ∈ WSa := WSa_in 192 rfl rfl
theorem wm_168 : (Jvm.Cond.methodLink "FormatMill$Text" (31 : Nat) Lib.Math.abs.name) ∈ WSa := WSa_in 193 rfl rfl
theorem wm_169 : (Jvm.Cond.static Lib.Math.abs.name) ∈ WSa := WSa_in 194 rfl rfl
theorem wm_170 : (Jvm.Cond.code Lib.Math.abs.name prog_7_method_59_code (1 : Nat) (Option.some Jvm.ClassFile.FieldType.int)) ∈ WSa := WSa_in 195 rfl rfl
theorem wm_171 : (Jvm.Cond.methodLink "FormatMillLaw" (39 : Nat) yX3_clear) ∈ WSa := WSa_in 196 rfl rfl
theorem wm_172 : (Jvm.Cond.instanceMethod yX3_clear) ∈ WSa := WSa_in 197 rfl rfl
theorem wm_173 : (Jvm.Cond.selects "FormatMill" yX3_clear yX3_clear) ∈ WSa := WSa_in 198 rfl rfl
theorem wm_174 : (Jvm.Cond.code yX3_clear prog_1_method_7_code (1 : Nat) (Option.none : Option Jvm.ClassFile.FieldType)) ∈ WSa := WSa_in 199 rfl rfl
theorem wm_175 : (Jvm.Cond.methodLink "FormatMillLaw" (43 : Nat) yX3_make) ∈ WSa := WSa_in 200 rfl rfl
theorem wm_176 : (Jvm.Cond.instanceMethod yX3_make) ∈ WSa := WSa_in 201 rfl rfl
theorem wm_177 : (Jvm.Cond.selects "FormatMill" yX3_make yX3_make) ∈ WSa := WSa_in 202 rfl rfl
theorem wm_178 : (Jvm.Cond.code yX3_make prog_1_method_8_code (4 : Nat) (Option.some Jvm.ClassFile.FieldType.int)) ∈ WSa := WSa_in 203 rfl rfl
theorem wm_179 : (Jvm.Cond.methodLink "FormatMill" (87 : Nat) yX2_at) ∈ WSa := WSa_in 204 rfl rfl
theorem wm_180 : (Jvm.Cond.methodLink "FormatMill" (91 : Nat) yX1_read) ∈ WSa := WSa_in 205 rfl rfl
theorem wm_181 : (Jvm.Cond.instanceMethod yX1_read) ∈ WSa := WSa_in 206 rfl rfl
theorem wm_182 : (Jvm.Cond.selects "FormatMill$Place" yX1_read yX1_read) ∈ WSa := WSa_in 207 rfl rfl
theorem wm_183 : (Jvm.Cond.code yX1_read prog_3_method_2_code (5 : Nat) (Option.some Jvm.ClassFile.FieldType.boolean)) ∈ WSa := WSa_in 208 rfl rfl
theorem wm_184 : (Jvm.Cond.methodLink "FormatMill$Place" (15 : Nat) yX1_readFlags) ∈ WSa := WSa_in 209 rfl rfl
theorem wm_186 : (Jvm.Cond.instanceMethod yX1_readFlags) ∈ WSa := WSa_in 211 rfl rfl
theorem wm_187 : (Jvm.Cond.code yX1_readFlags prog_3_method_4_code (4 : Nat) (Option.some Jvm.ClassFile.FieldType.int)) ∈ WSa := WSa_in 212 rfl rfl
theorem wm_188 : (Jvm.Cond.methodLink "FormatMill$Place" (22 : Nat) yX2_at) ∈ WSa := WSa_in 213 rfl rfl
theorem wm_189 : (Jvm.Cond.methodLink "FormatMill$Place" (51 : Nat) yX1_setFlag) ∈ WSa := WSa_in 214 rfl rfl
theorem wm_191 : (Jvm.Cond.instanceMethod yX1_setFlag) ∈ WSa := WSa_in 216 rfl rfl
theorem wm_192 : (Jvm.Cond.code yX1_setFlag prog_3_method_5_code (2 : Nat) (Option.some Jvm.ClassFile.FieldType.boolean)) ∈ WSa := WSa_in 217 rfl rfl
theorem wm_193 : (Jvm.Cond.methodLink "FormatMill$Place" (19 : Nat) yX1_readWidth) ∈ WSa := WSa_in 218 rfl rfl
theorem wm_195 : (Jvm.Cond.instanceMethod yX1_readWidth) ∈ WSa := WSa_in 220 rfl rfl
theorem wm_196 : (Jvm.Cond.code yX1_readWidth prog_3_method_6_code (4 : Nat) (Option.some Jvm.ClassFile.FieldType.int)) ∈ WSa := WSa_in 221 rfl rfl
theorem wm_198 : (Jvm.Cond.static yX3_isDecimalDigit) ∈ WSa := WSa_in 223 rfl rfl
theorem wm_199 : (Jvm.Cond.code yX3_isDecimalDigit prog_1_method_15_code (1 : Nat) (Option.some Jvm.ClassFile.FieldType.boolean)) ∈ WSa := WSa_in 224 rfl rfl
theorem wm_200 : (Jvm.Cond.constant "FormatMill$Place" (60 : Nat) (100000 : Int32)) ∈ WSa := WSa_in 225 rfl rfl
theorem wm_201 : (Jvm.Cond.methodLink "FormatMill$Place" (61 : Nat) Lib.Math.min.name) ∈ WSa := WSa_in 226 rfl rfl
theorem wm_202 : (Jvm.Cond.static Lib.Math.min.name) ∈ WSa := WSa_in 227 rfl rfl
theorem wm_203 : (Jvm.Cond.code Lib.Math.min.name prog_7_method_69_code (2 : Nat) (Option.some Jvm.ClassFile.FieldType.int)) ∈ WSa := WSa_in 228 rfl rfl
theorem wm_204 : (Jvm.Cond.methodLink "FormatMill$Place" (31 : Nat) yX1_isKind) ∈ WSa := WSa_in 229 rfl rfl
theorem wm_205 : (Jvm.Cond.static yX1_isKind) ∈ WSa := WSa_in 230 rfl rfl
theorem wm_206 : (Jvm.Cond.code yX1_isKind prog_3_method_7_code (1 : Nat) (Option.some Jvm.ClassFile.FieldType.boolean)) ∈ WSa := WSa_in 231 rfl rfl
theorem wm_207 : (Jvm.Cond.methodLink "FormatMill" (95 : Nat) yX3_fillPlace) ∈ WSa := WSa_in 232 rfl rfl
theorem wm_209 : (Jvm.Cond.instanceMethod yX3_fillPlace) ∈ WSa := WSa_in 234 rfl rfl
theorem wm_210 : (Jvm.Cond.code yX3_fillPlace prog_1_method_12_code (2 : Nat) (Option.some Jvm.ClassFile.FieldType.int)) ∈ WSa := WSa_in 235 rfl rfl
theorem wm_211 : (Jvm.Cond.methodLink "FormatMill" (105 : Nat) yX3_addPadded) ∈ WSa := WSa_in 236 rfl rfl
theorem wm_213 : (Jvm.Cond.instanceMethod yX3_addPadded) ∈ WSa := WSa_in 238 rfl rfl
theorem wm_214 : (Jvm.Cond.code yX3_addPadded prog_1_method_14_code (7 : Nat) (Option.some Jvm.ClassFile.FieldType.int)) ∈ WSa := WSa_in 239 rfl rfl
theorem wm_215 : (Jvm.Cond.methodLink "FormatMill" (134 : Nat) Lib.Math.max.name) ∈ WSa := WSa_in 240 rfl rfl
theorem wm_216 : (Jvm.Cond.static Lib.Math.max.name) ∈ WSa := WSa_in 241 rfl rfl
theorem wm_217 : (Jvm.Cond.code Lib.Math.max.name prog_7_method_65_code (2 : Nat) (Option.some Jvm.ClassFile.FieldType.int)) ∈ WSa := WSa_in 242 rfl rfl
theorem wm_218 : (Jvm.Cond.methodLink "FormatMill" (143 : Nat) yX2_addMany) ∈ WSa := WSa_in 243 rfl rfl
theorem wm_219 : (Jvm.Cond.instanceMethod yX2_addMany) ∈ WSa := WSa_in 244 rfl rfl
theorem wm_220 : (Jvm.Cond.selects "FormatMill$Text" yX2_addMany yX2_addMany) ∈ WSa := WSa_in 245 rfl rfl
theorem wm_221 : (Jvm.Cond.code yX2_addMany prog_4_method_8_code (4 : Nat) (Option.none : Option Jvm.ClassFile.FieldType)) ∈ WSa := WSa_in 246 rfl rfl
theorem wm_222 : (Jvm.Cond.methodLink "FormatMill" (109 : Nat) yX0_read) ∈ WSa := WSa_in 247 rfl rfl
theorem wm_223 : (Jvm.Cond.instanceMethod yX0_read) ∈ WSa := WSa_in 248 rfl rfl
theorem wm_224 : (Jvm.Cond.selects "FormatMill$Numeral" yX0_read yX0_read) ∈ WSa := WSa_in 249 rfl rfl
theorem wm_225 : (Jvm.Cond.code yX0_read prog_2_method_2_code (4 : Nat) (Option.some Jvm.ClassFile.FieldType.boolean)) ∈ WSa := WSa_in 250 rfl rfl
theorem wm_226 : (Jvm.Cond.methodLink "FormatMill$Numeral" (15 : Nat) yX2_at) ∈ WSa := WSa_in 251 rfl rfl
theorem wm_227 : (Jvm.Cond.methodLink "FormatMill$Numeral" (21 : Nat) yX0_readHexadecimal) ∈ WSa := WSa_in 252 rfl rfl
theorem wm_229 : (Jvm.Cond.instanceMethod yX0_readHexadecimal) ∈ WSa := WSa_in 254 rfl rfl
theorem wm_230 : (Jvm.Cond.code yX0_readHexadecimal prog_2_method_3_code (7 : Nat) (Option.some Jvm.ClassFile.FieldType.boolean)) ∈ WSa := WSa_in 255 rfl rfl
theorem wm_231 : (Jvm.Cond.methodLink "FormatMill$Numeral" (32 : Nat) yX0_hexadecimalDigit) ∈ WSa := WSa_in 256 rfl rfl
theorem wm_232 : (Jvm.Cond.static yX0_hexadecimalDigit) ∈ WSa := WSa_in 257 rfl rfl
theorem wm_233 : (Jvm.Cond.code yX0_hexadecimalDigit prog_2_method_6_code (1 : Nat) (Option.some Jvm.ClassFile.FieldType.int)) ∈ WSa := WSa_in 258 rfl rfl
theorem wm_235 : (Jvm.Cond.methodLink "FormatMill$Numeral" (25 : Nat) yX0_readDecimal) ∈ WSa := WSa_in 260 rfl rfl
theorem wm_237 : (Jvm.Cond.instanceMethod yX0_readDecimal) ∈ WSa := WSa_in 262 rfl rfl
theorem wm_238 : (Jvm.Cond.code yX0_readDecimal prog_2_method_4_code (6 : Nat) (Option.some Jvm.ClassFile.FieldType.boolean)) ∈ WSa := WSa_in 263 rfl rfl
theorem wm_239 : (Jvm.Cond.methodLink "FormatMill$Numeral" (39 : Nat) yX0_takeDigitBelowZero) ∈ WSa := WSa_in 264 rfl rfl
theorem wm_241 : (Jvm.Cond.instanceMethod yX0_takeDigitBelowZero) ∈ WSa := WSa_in 266 rfl rfl
theorem wm_242 : (Jvm.Cond.code yX0_takeDigitBelowZero prog_2_method_5_code (2 : Nat) (Option.some Jvm.ClassFile.FieldType.boolean)) ∈ WSa := WSa_in 267 rfl rfl
theorem wm_243 : (Jvm.Cond.constantLong "FormatMill$Numeral" (44 : Nat) (-922337203685477580 : Int64)) ∈ WSa := WSa_in 268 rfl rfl
theorem wm_244 : (Jvm.Cond.constantLong "FormatMill$Numeral" (46 : Nat) (10 : Int64)) ∈ WSa := WSa_in 269 rfl rfl
theorem wm_245 : (Jvm.Cond.constantLong "FormatMill$Numeral" (42 : Nat) (-9223372036854775808 : Int64)) ∈ WSa := WSa_in 270 rfl rfl
theorem wm_246 : (Jvm.Cond.methodLink "FormatMill" (116 : Nat) yX3_fillWithInteger) ∈ WSa := WSa_in 271 rfl rfl
theorem wm_248 : (Jvm.Cond.instanceMethod yX3_fillWithInteger) ∈ WSa := WSa_in 273 rfl rfl
theorem wm_249 : (Jvm.Cond.code yX3_fillWithInteger prog_1_method_13_code (3 : Nat) (Option.some Jvm.ClassFile.FieldType.int)) ∈ WSa := WSa_in 274 rfl rfl
theorem wm_250 : (Jvm.Cond.methodLink "FormatMill" (120 : Nat) yX1_signOf) ∈ WSa := WSa_in 275 rfl rfl
theorem wm_251 : (Jvm.Cond.instanceMethod yX1_signOf) ∈ WSa := WSa_in 276 rfl rfl
theorem wm_252 : (Jvm.Cond.selects "FormatMill$Place" yX1_signOf yX1_signOf) ∈ WSa := WSa_in 277 rfl rfl
theorem wm_253 : (Jvm.Cond.code yX1_signOf prog_3_method_3_code (3 : Nat) (Option.some Jvm.ClassFile.FieldType.int)) ∈ WSa := WSa_in 278 rfl rfl
theorem wm_254 : (Jvm.Cond.methodLink "FormatMill" (127 : Nat) yX2_addBits) ∈ WSa := WSa_in 279 rfl rfl
theorem wm_255 : (Jvm.Cond.instanceMethod yX2_addBits) ∈ WSa := WSa_in 280 rfl rfl
theorem wm_256 : (Jvm.Cond.selects "FormatMill$Text" yX2_addBits yX2_addBits) ∈ WSa := WSa_in 281 rfl rfl
theorem wm_257 : (Jvm.Cond.code yX2_addBits prog_4_method_11_code (10 : Nat) (Option.none : Option Jvm.ClassFile.FieldType)) ∈ WSa := WSa_in 282 rfl rfl
theorem wm_258 : (Jvm.Cond.methodLink "FormatMillLaw" (47 : Nat) yX3_madeAt) ∈ WSa := WSa_in 283 rfl rfl
theorem wm_259 : (Jvm.Cond.instanceMethod yX3_madeAt) ∈ WSa := WSa_in 284 rfl rfl
theorem wm_260 : (Jvm.Cond.selects "FormatMill" yX3_madeAt yX3_madeAt) ∈ WSa := WSa_in 285 rfl rfl
theorem wm_261 : (Jvm.Cond.code yX3_madeAt prog_1_method_9_code (2 : Nat) (Option.some Jvm.ClassFile.FieldType.int)) ∈ WSa := WSa_in 286 rfl rfl
theorem wm_262 : (Jvm.Cond.classLink "FormatMillLaw" (10 : Nat) "FormatMillModel") ∈ WSa := WSa_in 287 rfl rfl
theorem wm_263 : (Jvm.Cond.instantiable "FormatMillModel" (20 : Nat)) ∈ WSa := WSa_in 288 rfl rfl
theorem wm_264 : (Jvm.Cond.methodLink "FormatMillLaw" (12 : Nat) yX4_init) ∈ WSa := WSa_in 289 rfl rfl
theorem wm_265 : (Jvm.Cond.instanceMethod yX4_init) ∈ WSa := WSa_in 290 rfl rfl
theorem wm_266 : (Jvm.Cond.code yX4_init prog_6_method_1_code (1 : Nat) (Option.none : Option Jvm.ClassFile.FieldType)) ∈ WSa := WSa_in 291 rfl rfl
theorem wm_267 : (Jvm.Cond.methodLink "FormatMillModel" (1 : Nat) objectInit) ∈ WSa := WSa_in 292 rfl rfl
theorem wm_268 : (Jvm.Cond.fieldLink "FormatMillModel" (7 : Nat) "FormatMillModel" "tape" "[B") ∈ WSa := WSa_in 293 rfl rfl
theorem wm_269 : (Jvm.Cond.fieldLink "FormatMillModel" (13 : Nat) "FormatMillModel" "text" "[B") ∈ WSa := WSa_in 294 rfl rfl
theorem wm_270 : (Jvm.Cond.fieldLink "FormatMillModel" (16 : Nat) "FormatMillModel" "words" "[B") ∈ WSa := WSa_in 295 rfl rfl
theorem wm_271 : (Jvm.Cond.fieldLink "FormatMillModel" (19 : Nat) "FormatMillModel" "out" "[B") ∈ WSa := WSa_in 296 rfl rfl
theorem wm_272 : (Jvm.Cond.fieldLink "FormatMillModel" (29 : Nat) "FormatMillModel" "taped" "I") ∈ WSa := WSa_in 297 rfl rfl
theorem wm_273 : (Jvm.Cond.fieldLink "FormatMillModel" (37 : Nat) "FormatMillModel" "size" "I") ∈ WSa := WSa_in 298 rfl rfl
theorem wm_274 : (Jvm.Cond.fieldLink "FormatMillModel" (40 : Nat) "FormatMillModel" "many" "I") ∈ WSa := WSa_in 299 rfl rfl
theorem wm_275 : (Jvm.Cond.fieldLink "FormatMillModel" (126 : Nat) "FormatMillModel" "made" "I") ∈ WSa := WSa_in 300 rfl rfl
theorem wm_276 : (Jvm.Cond.fieldLink "FormatMillModel" (104 : Nat) "FormatMillModel" "outSize" "I") ∈ WSa := WSa_in 301 rfl rfl
theorem wm_277 : (Jvm.Cond.fieldLink "FormatMillModel" (22 : Nat) "FormatMillModel" "wordSize" "[I") ∈ WSa := WSa_in 302 rfl rfl
theorem wm_278 : (Jvm.Cond.fieldLink "FormatMillModel" (77 : Nat) "FormatMillModel" "at" "I") ∈ WSa := WSa_in 303 rfl rfl
theorem wm_279 : (Jvm.Cond.fieldLink "FormatMillModel" (93 : Nat) "FormatMillModel" "width" "I") ∈ WSa := WSa_in 304 rfl rfl
theorem wm_280 : (Jvm.Cond.fieldLink "FormatMillModel" (101 : Nat) "FormatMillModel" "kind" "I") ∈ WSa := WSa_in 305 rfl rfl
theorem wm_281 : (Jvm.Cond.fieldLink "FormatMillModel" (80 : Nat) "FormatMillModel" "left" "Z") ∈ WSa := WSa_in 306 rfl rfl
theorem wm_282 : (Jvm.Cond.fieldLink "FormatMillModel" (84 : Nat) "FormatMillModel" "zeros" "Z") ∈ WSa := WSa_in 307 rfl rfl
theorem wm_283 : (Jvm.Cond.fieldLink "FormatMillModel" (87 : Nat) "FormatMillModel" "plus" "Z") ∈ WSa := WSa_in 308 rfl rfl
theorem wm_284 : (Jvm.Cond.fieldLink "FormatMillModel" (90 : Nat) "FormatMillModel" "blank" "Z") ∈ WSa := WSa_in 309 rfl rfl
theorem wm_285 : (Jvm.Cond.fieldLink "FormatMillModel" (26 : Nat) "FormatMillModel" "piece" "[B") ∈ WSa := WSa_in 310 rfl rfl
theorem wm_286 : (Jvm.Cond.fieldLink "FormatMillModel" (47 : Nat) "FormatMillModel" "from" "I") ∈ WSa := WSa_in 311 rfl rfl
theorem wm_287 : (Jvm.Cond.fieldLink "FormatMillModel" (62 : Nat) "FormatMillModel" "value" "J") ∈ WSa := WSa_in 312 rfl rfl
theorem wm_288 : (Jvm.Cond.laysFinal "FormatMillModel" "FormatMillModel" "tape" "[B") ∈ WSa := WSa_in 313 rfl rfl
theorem wm_290 : (Jvm.Cond.laysFinal "FormatMillModel" "FormatMillModel" "text" "[B") ∈ WSa := WSa_in 315 rfl rfl
theorem wm_292 : (Jvm.Cond.laysFinal "FormatMillModel" "FormatMillModel" "words" "[B") ∈ WSa := WSa_in 317 rfl rfl
theorem wm_294 : (Jvm.Cond.laysFinal "FormatMillModel" "FormatMillModel" "out" "[B") ∈ WSa := WSa_in 319 rfl rfl
theorem wm_296 : (Jvm.Cond.lays "FormatMillModel" "FormatMillModel" "taped" "I") ∈ WSa := WSa_in 321 rfl rfl
theorem wm_298 : (Jvm.Cond.lays "FormatMillModel" "FormatMillModel" "size" "I") ∈ WSa := WSa_in 323 rfl rfl
theorem wm_300 : (Jvm.Cond.lays "FormatMillModel" "FormatMillModel" "many" "I") ∈ WSa := WSa_in 325 rfl rfl
theorem wm_302 : (Jvm.Cond.lays "FormatMillModel" "FormatMillModel" "made" "I") ∈ WSa := WSa_in 327 rfl rfl
theorem wm_304 : (Jvm.Cond.lays "FormatMillModel" "FormatMillModel" "outSize" "I") ∈ WSa := WSa_in 329 rfl rfl
theorem wm_306 : (Jvm.Cond.laysFinal "FormatMillModel" "FormatMillModel" "wordSize" "[I") ∈ WSa := WSa_in 331 rfl rfl
theorem wm_308 : (Jvm.Cond.lays "FormatMillModel" "FormatMillModel" "at" "I") ∈ WSa := WSa_in 333 rfl rfl
theorem wm_310 : (Jvm.Cond.lays "FormatMillModel" "FormatMillModel" "width" "I") ∈ WSa := WSa_in 335 rfl rfl
theorem wm_312 : (Jvm.Cond.lays "FormatMillModel" "FormatMillModel" "kind" "I") ∈ WSa := WSa_in 337 rfl rfl
theorem wm_314 : (Jvm.Cond.lays "FormatMillModel" "FormatMillModel" "left" "Z") ∈ WSa := WSa_in 339 rfl rfl
theorem wm_316 : (Jvm.Cond.lays "FormatMillModel" "FormatMillModel" "zeros" "Z") ∈ WSa := WSa_in 341 rfl rfl
theorem wm_318 : (Jvm.Cond.lays "FormatMillModel" "FormatMillModel" "plus" "Z") ∈ WSa := WSa_in 343 rfl rfl
theorem wm_320 : (Jvm.Cond.lays "FormatMillModel" "FormatMillModel" "blank" "Z") ∈ WSa := WSa_in 345 rfl rfl
theorem wm_322 : (Jvm.Cond.laysFinal "FormatMillModel" "FormatMillModel" "piece" "[B") ∈ WSa := WSa_in 347 rfl rfl
theorem wm_324 : (Jvm.Cond.lays "FormatMillModel" "FormatMillModel" "from" "I") ∈ WSa := WSa_in 349 rfl rfl
theorem wm_326 : (Jvm.Cond.lays "FormatMillModel" "FormatMillModel" "value" "J") ∈ WSa := WSa_in 351 rfl rfl
theorem wm_329 : (Jvm.Cond.arrayClass Jvm.ClassFile.FieldType.byte) ∈ WSa := WSa_in 354 rfl rfl
theorem wm_330 : (Jvm.Cond.methodLink "FormatMillLaw" (17 : Nat) yX4_feed) ∈ WSa := WSa_in 355 rfl rfl
theorem wm_331 : (Jvm.Cond.instanceMethod yX4_feed) ∈ WSa := WSa_in 356 rfl rfl
theorem wm_332 : (Jvm.Cond.selects "FormatMillModel" yX4_feed yX4_feed) ∈ WSa := WSa_in 357 rfl rfl
theorem wm_333 : (Jvm.Cond.code yX4_feed prog_6_method_3_code (6 : Nat) (Option.some Jvm.ClassFile.FieldType.boolean)) ∈ WSa := WSa_in 358 rfl rfl
theorem wm_334 : (Jvm.Cond.methodLink "FormatMillModel" (33 : Nat) yX4_lay) ∈ WSa := WSa_in 359 rfl rfl
theorem wm_336 : (Jvm.Cond.instanceMethod yX4_lay) ∈ WSa := WSa_in 361 rfl rfl
theorem wm_337 : (Jvm.Cond.code yX4_lay prog_6_method_2_code (3 : Nat) (Option.none : Option Jvm.ClassFile.FieldType)) ∈ WSa := WSa_in 362 rfl rfl
theorem wm_338 : (Jvm.Cond.methodLink "FormatMillLaw" (22 : Nat) yX4_end) ∈ WSa := WSa_in 363 rfl rfl
theorem wm_339 : (Jvm.Cond.instanceMethod yX4_end) ∈ WSa := WSa_in 364 rfl rfl
theorem wm_340 : (Jvm.Cond.selects "FormatMillModel" yX4_end yX4_end) ∈ WSa := WSa_in 365 rfl rfl
theorem wm_341 : (Jvm.Cond.code yX4_end prog_6_method_4_code (2 : Nat) (Option.some Jvm.ClassFile.FieldType.boolean)) ∈ WSa := WSa_in 366 rfl rfl
theorem wm_342 : (Jvm.Cond.methodLink "FormatMillLaw" (27 : Nat) yX4_format) ∈ WSa := WSa_in 367 rfl rfl
theorem wm_343 : (Jvm.Cond.instanceMethod yX4_format) ∈ WSa := WSa_in 368 rfl rfl
theorem wm_344 : (Jvm.Cond.selects "FormatMillModel" yX4_format yX4_format) ∈ WSa := WSa_in 369 rfl rfl
theorem wm_345 : (Jvm.Cond.code yX4_format prog_6_method_5_code (2 : Nat) (Option.some Jvm.ClassFile.FieldType.int)) ∈ WSa := WSa_in 370 rfl rfl
theorem wm_346 : (Jvm.Cond.methodLink "FormatMillLaw" (31 : Nat) yX4_argument) ∈ WSa := WSa_in 371 rfl rfl
theorem wm_347 : (Jvm.Cond.instanceMethod yX4_argument) ∈ WSa := WSa_in 372 rfl rfl
theorem wm_348 : (Jvm.Cond.selects "FormatMillModel" yX4_argument yX4_argument) ∈ WSa := WSa_in 373 rfl rfl
theorem wm_349 : (Jvm.Cond.code yX4_argument prog_6_method_6_code (3 : Nat) (Option.some Jvm.ClassFile.FieldType.int)) ∈ WSa := WSa_in 374 rfl rfl
theorem wm_350 : (Jvm.Cond.methodLink "FormatMillLaw" (38 : Nat) yX4_number) ∈ WSa := WSa_in 375 rfl rfl
theorem wm_351 : (Jvm.Cond.instanceMethod yX4_number) ∈ WSa := WSa_in 376 rfl rfl
theorem wm_352 : (Jvm.Cond.selects "FormatMillModel" yX4_number yX4_number) ∈ WSa := WSa_in 377 rfl rfl
theorem wm_353 : (Jvm.Cond.code yX4_number prog_6_method_7_code (5 : Nat) (Option.some Jvm.ClassFile.FieldType.int)) ∈ WSa := WSa_in 378 rfl rfl
theorem wm_354 : (Jvm.Cond.methodLink "FormatMillModel" (43 : Nat) yX4_decimal) ∈ WSa := WSa_in 379 rfl rfl
theorem wm_356 : (Jvm.Cond.instanceMethod yX4_decimal) ∈ WSa := WSa_in 381 rfl rfl
theorem wm_357 : (Jvm.Cond.code yX4_decimal prog_6_method_10_code (3 : Nat) (Option.none : Option Jvm.ClassFile.FieldType)) ∈ WSa := WSa_in 382 rfl rfl
theorem wm_358 : (Jvm.Cond.methodLink "FormatMillModel" (50 : Nat) yX4_digits) ∈ WSa := WSa_in 383 rfl rfl
theorem wm_360 : (Jvm.Cond.instanceMethod yX4_digits) ∈ WSa := WSa_in 385 rfl rfl
theorem wm_361 : (Jvm.Cond.code yX4_digits prog_6_method_11_code (7 : Nat) (Option.none : Option Jvm.ClassFile.FieldType)) ∈ WSa := WSa_in 386 rfl rfl
theorem wm_362 : (Jvm.Cond.constantLong "FormatMillModel" (56 : Nat) (10 : Int64)) ∈ WSa := WSa_in 387 rfl rfl
theorem wm_363 : (Jvm.Cond.methodLink "FormatMillModel" (53 : Nat) yX4_ahead) ∈ WSa := WSa_in 388 rfl rfl
theorem wm_365 : (Jvm.Cond.instanceMethod yX4_ahead) ∈ WSa := WSa_in 390 rfl rfl
theorem wm_366 : (Jvm.Cond.code yX4_ahead prog_6_method_9_code (2 : Nat) (Option.none : Option Jvm.ClassFile.FieldType)) ∈ WSa := WSa_in 391 rfl rfl
theorem wm_367 : (Jvm.Cond.methodLink "FormatMillLaw" (42 : Nat) yX4_clear) ∈ WSa := WSa_in 392 rfl rfl
theorem wm_368 : (Jvm.Cond.instanceMethod yX4_clear) ∈ WSa := WSa_in 393 rfl rfl
theorem wm_369 : (Jvm.Cond.selects "FormatMillModel" yX4_clear yX4_clear) ∈ WSa := WSa_in 394 rfl rfl
theorem wm_370 : (Jvm.Cond.code yX4_clear prog_6_method_8_code (1 : Nat) (Option.none : Option Jvm.ClassFile.FieldType)) ∈ WSa := WSa_in 395 rfl rfl
theorem wm_371 : (Jvm.Cond.methodLink "FormatMillLaw" (46 : Nat) yX4_make) ∈ WSa := WSa_in 396 rfl rfl
theorem wm_372 : (Jvm.Cond.instanceMethod yX4_make) ∈ WSa := WSa_in 397 rfl rfl
theorem wm_373 : (Jvm.Cond.selects "FormatMillModel" yX4_make yX4_make) ∈ WSa := WSa_in 398 rfl rfl
theorem wm_374 : (Jvm.Cond.code yX4_make prog_6_method_23_code (4 : Nat) (Option.some Jvm.ClassFile.FieldType.int)) ∈ WSa := WSa_in 399 rfl rfl
theorem wm_375 : (Jvm.Cond.methodLink "FormatMillModel" (107 : Nat) yX4_put) ∈ WSa := WSa_in 400 rfl rfl
theorem wm_377 : (Jvm.Cond.instanceMethod yX4_put) ∈ WSa := WSa_in 402 rfl rfl
theorem wm_378 : (Jvm.Cond.code yX4_put prog_6_method_19_code (2 : Nat) (Option.some Jvm.ClassFile.FieldType.boolean)) ∈ WSa := WSa_in 403 rfl rfl
theorem wm_379 : (Jvm.Cond.methodLink "FormatMillModel" (129 : Nat) yX4_readPlace) ∈ WSa := WSa_in 404 rfl rfl
theorem wm_381 : (Jvm.Cond.instanceMethod yX4_readPlace) ∈ WSa := WSa_in 406 rfl rfl
theorem wm_382 : (Jvm.Cond.code yX4_readPlace prog_6_method_18_code (1 : Nat) (Option.some Jvm.ClassFile.FieldType.boolean)) ∈ WSa := WSa_in 407 rfl rfl
theorem wm_383 : (Jvm.Cond.methodLink "FormatMillModel" (96 : Nat) yX4_flag) ∈ WSa := WSa_in 408 rfl rfl
theorem wm_385 : (Jvm.Cond.instanceMethod yX4_flag) ∈ WSa := WSa_in 410 rfl rfl
theorem wm_386 : (Jvm.Cond.code yX4_flag prog_6_method_17_code (2 : Nat) (Option.some Jvm.ClassFile.FieldType.boolean)) ∈ WSa := WSa_in 411 rfl rfl
theorem wm_387 : (Jvm.Cond.constant "FormatMillModel" (100 : Nat) (100000 : Int32)) ∈ WSa := WSa_in 412 rfl rfl
theorem wm_388 : (Jvm.Cond.methodLink "FormatMillModel" (132 : Nat) yX4_filled) ∈ WSa := WSa_in 413 rfl rfl
theorem wm_390 : (Jvm.Cond.instanceMethod yX4_filled) ∈ WSa := WSa_in 415 rfl rfl
theorem wm_391 : (Jvm.Cond.code yX4_filled prog_6_method_22_code (3 : Nat) (Option.some Jvm.ClassFile.FieldType.int)) ∈ WSa := WSa_in 416 rfl rfl
theorem wm_392 : (Jvm.Cond.methodLink "FormatMillModel" (115 : Nat) yX4_fill) ∈ WSa := WSa_in 417 rfl rfl
theorem wm_394 : (Jvm.Cond.instanceMethod yX4_fill) ∈ WSa := WSa_in 419 rfl rfl
theorem wm_395 : (Jvm.Cond.code yX4_fill prog_6_method_21_code (10 : Nat) (Option.some Jvm.ClassFile.FieldType.boolean)) ∈ WSa := WSa_in 420 rfl rfl
theorem wm_396 : (Jvm.Cond.methodLink "FormatMillModel" (111 : Nat) yX4_puts) ∈ WSa := WSa_in 421 rfl rfl
theorem wm_398 : (Jvm.Cond.instanceMethod yX4_puts) ∈ WSa := WSa_in 423 rfl rfl
theorem wm_399 : (Jvm.Cond.code yX4_puts prog_6_method_20_code (5 : Nat) (Option.some Jvm.ClassFile.FieldType.boolean)) ∈ WSa := WSa_in 424 rfl rfl
theorem wm_400 : (Jvm.Cond.methodLink "FormatMillModel" (119 : Nat) yX4_isInteger) ∈ WSa := WSa_in 425 rfl rfl
theorem wm_402 : (Jvm.Cond.instanceMethod yX4_isInteger) ∈ WSa := WSa_in 427 rfl rfl
theorem wm_403 : (Jvm.Cond.code yX4_isInteger prog_6_method_16_code (7 : Nat) (Option.some Jvm.ClassFile.FieldType.boolean)) ∈ WSa := WSa_in 428 rfl rfl
theorem wm_404 : (Jvm.Cond.methodLink "FormatMillModel" (70 : Nat) yX4_isHex) ∈ WSa := WSa_in 429 rfl rfl
theorem wm_406 : (Jvm.Cond.instanceMethod yX4_isHex) ∈ WSa := WSa_in 431 rfl rfl
theorem wm_407 : (Jvm.Cond.code yX4_isHex prog_6_method_14_code (9 : Nat) (Option.some Jvm.ClassFile.FieldType.boolean)) ∈ WSa := WSa_in 432 rfl rfl
theorem wm_408 : (Jvm.Cond.methodLink "FormatMillModel" (58 : Nat) yX4_hex) ∈ WSa := WSa_in 433 rfl rfl
theorem wm_409 : (Jvm.Cond.static yX4_hex) ∈ WSa := WSa_in 434 rfl rfl
theorem wm_410 : (Jvm.Cond.code yX4_hex prog_6_method_13_code (1 : Nat) (Option.some Jvm.ClassFile.FieldType.int)) ∈ WSa := WSa_in 435 rfl rfl
theorem wm_411 : (Jvm.Cond.methodLink "FormatMillModel" (74 : Nat) yX4_isDecimal) ∈ WSa := WSa_in 436 rfl rfl
theorem wm_413 : (Jvm.Cond.instanceMethod yX4_isDecimal) ∈ WSa := WSa_in 438 rfl rfl
theorem wm_414 : (Jvm.Cond.code yX4_isDecimal prog_6_method_15_code (9 : Nat) (Option.some Jvm.ClassFile.FieldType.boolean)) ∈ WSa := WSa_in 439 rfl rfl
theorem wm_415 : (Jvm.Cond.constantLong "FormatMillModel" (66 : Nat) (-922337203685477580 : Int64)) ∈ WSa := WSa_in 440 rfl rfl
theorem wm_416 : (Jvm.Cond.constantLong "FormatMillModel" (68 : Nat) (-9223372036854775808 : Int64)) ∈ WSa := WSa_in 441 rfl rfl
theorem wm_417 : (Jvm.Cond.methodLink "FormatMillModel" (122 : Nat) yX4_bits) ∈ WSa := WSa_in 442 rfl rfl
theorem wm_419 : (Jvm.Cond.instanceMethod yX4_bits) ∈ WSa := WSa_in 444 rfl rfl
theorem wm_420 : (Jvm.Cond.code yX4_bits prog_6_method_12_code (8 : Nat) (Option.none : Option Jvm.ClassFile.FieldType)) ∈ WSa := WSa_in 445 rfl rfl
theorem wm_421 : (Jvm.Cond.methodLink "FormatMillLaw" (51 : Nat) yX4_madeAt) ∈ WSa := WSa_in 446 rfl rfl
theorem wm_422 : (Jvm.Cond.instanceMethod yX4_madeAt) ∈ WSa := WSa_in 447 rfl rfl
theorem wm_423 : (Jvm.Cond.selects "FormatMillModel" yX4_madeAt yX4_madeAt) ∈ WSa := WSa_in 448 rfl rfl
theorem wm_424 : (Jvm.Cond.code yX4_madeAt prog_6_method_24_code (2 : Nat) (Option.some Jvm.ClassFile.FieldType.int)) ∈ WSa := WSa_in 449 rfl rfl
theorem wm_425 : (Jvm.Cond.constantLong "FormatMillLaw" (32 : Nat) (4294967295 : Int64)) ∈ WSa := WSa_in 450 rfl rfl
theorem inX0 : ∀ w ∈ u_ws RX0 TX0 1, w ∈ WSa := by
  intro w hw
  obtain ⟨k, hk, rfl⟩ := List.mem_map.mp hw
  have hk := List.mem_range.mp hk
  match k, hk with
  | 0, _ => exact wm_74
theorem inX1 : ∀ w ∈ u_ws RX1 TX1 7, w ∈ WSa := by
  intro w hw
  obtain ⟨k, hk, rfl⟩ := List.mem_map.mp hw
  have hk := List.mem_range.mp hk
  match k, hk with
  | 0, _ => exact wm_51
  | 1, _ => exact wm_53
  | 2, _ => exact wm_55
  | 3, _ => exact wm_57
  | 4, _ => exact wm_59
  | 5, _ => exact wm_61
  | 6, _ => exact wm_63
theorem inX2 : ∀ w ∈ u_ws RX2 TX2 2, w ∈ WSa := by
  intro w hw
  obtain ⟨k, hk, rfl⟩ := List.mem_map.mp hw
  have hk := List.mem_range.mp hk
  match k, hk with
  | 0, _ => exact wm_26
  | 1, _ => exact wm_28
theorem inX3 : ∀ w ∈ u_ws RX3 TX3 9, w ∈ WSa := by
  intro w hw
  obtain ⟨k, hk, rfl⟩ := List.mem_map.mp hw
  have hk := List.mem_range.mp hk
  match k, hk with
  | 0, _ => exact wm_86
  | 1, _ => exact wm_88
  | 2, _ => exact wm_90
  | 3, _ => exact wm_92
  | 4, _ => exact wm_94
  | 5, _ => exact wm_96
  | 6, _ => exact wm_98
  | 7, _ => exact wm_100
  | 8, _ => exact wm_102
theorem inX4 : ∀ w ∈ u_ws RX4 TX4 20, w ∈ WSa := by
  intro w hw
  obtain ⟨k, hk, rfl⟩ := List.mem_map.mp hw
  have hk := List.mem_range.mp hk
  match k, hk with
  | 0, _ => exact wm_288
  | 1, _ => exact wm_290
  | 2, _ => exact wm_292
  | 3, _ => exact wm_294
  | 4, _ => exact wm_296
  | 5, _ => exact wm_298
  | 6, _ => exact wm_300
  | 7, _ => exact wm_302
  | 8, _ => exact wm_304
  | 9, _ => exact wm_306
  | 10, _ => exact wm_308
  | 11, _ => exact wm_310
  | 12, _ => exact wm_312
  | 13, _ => exact wm_314
  | 14, _ => exact wm_316
  | 15, _ => exact wm_318
  | 16, _ => exact wm_320
  | 17, _ => exact wm_322
  | 18, _ => exact wm_324
  | 19, _ => exact wm_326
  | k + 20, h => exact absurd h (by omega)
theorem ao_tbl : (Cond.arrayOver (.object RX2)) ∈ lw_tbl := List.mem_of_getElem? (i := 57) rfl
def nNs : List Cond := [(Jvm.Cond.fieldLinkNest "FormatMill$Numeral" (28 : Nat) "FormatMill$Text" "length" "I" "FormatMill"), (Jvm.Cond.fieldLinkNest "FormatMill$Place" (48 : Nat) "FormatMill$Text" "length" "I" "FormatMill"), (Jvm.Cond.fieldLinkNest "FormatMill" (69 : Nat) "FormatMill$Text" "length" "I" "FormatMill"), (Jvm.Cond.fieldLinkNest "FormatMill" (140 : Nat) "FormatMill$Place" "left" "Z" "FormatMill"), (Jvm.Cond.fieldLinkNest "FormatMill" (123 : Nat) "FormatMill$Place" "zeros" "Z" "FormatMill"), (Jvm.Cond.fieldLinkNest "FormatMill" (131 : Nat) "FormatMill$Place" "width" "I" "FormatMill"), (Jvm.Cond.fieldLinkNest "FormatMill" (102 : Nat) "FormatMill$Place" "kind" "I" "FormatMill"), (Jvm.Cond.fieldLinkNest "FormatMill" (99 : Nat) "FormatMill$Place" "behind" "I" "FormatMill"), (Jvm.Cond.fieldLinkNest "FormatMill" (112 : Nat) "FormatMill$Numeral" "value" "J" "FormatMill"), (Jvm.Cond.methodLinkNest "FormatMill$Place" (57 : Nat) yX3_isDecimalDigit "FormatMill"), (Jvm.Cond.methodLinkNest "FormatMill$Numeral" (35 : Nat) yX3_isDecimalDigit "FormatMill")]
theorem nn_0 : (Jvm.Cond.fieldLinkNest "FormatMill$Numeral" (28 : Nat) "FormatMill$Text" "length" "I" "FormatMill") ∈ nNs := List.mem_of_getElem? (i := 0) rfl
theorem nn_1 : (Jvm.Cond.fieldLinkNest "FormatMill$Place" (48 : Nat) "FormatMill$Text" "length" "I" "FormatMill") ∈ nNs := List.mem_of_getElem? (i := 1) rfl
theorem nn_2 : (Jvm.Cond.fieldLinkNest "FormatMill" (69 : Nat) "FormatMill$Text" "length" "I" "FormatMill") ∈ nNs := List.mem_of_getElem? (i := 2) rfl
theorem nn_3 : (Jvm.Cond.fieldLinkNest "FormatMill" (140 : Nat) "FormatMill$Place" "left" "Z" "FormatMill") ∈ nNs := List.mem_of_getElem? (i := 3) rfl
theorem nn_4 : (Jvm.Cond.fieldLinkNest "FormatMill" (123 : Nat) "FormatMill$Place" "zeros" "Z" "FormatMill") ∈ nNs := List.mem_of_getElem? (i := 4) rfl
theorem nn_5 : (Jvm.Cond.fieldLinkNest "FormatMill" (131 : Nat) "FormatMill$Place" "width" "I" "FormatMill") ∈ nNs := List.mem_of_getElem? (i := 5) rfl
theorem nn_6 : (Jvm.Cond.fieldLinkNest "FormatMill" (102 : Nat) "FormatMill$Place" "kind" "I" "FormatMill") ∈ nNs := List.mem_of_getElem? (i := 6) rfl
theorem nn_7 : (Jvm.Cond.fieldLinkNest "FormatMill" (99 : Nat) "FormatMill$Place" "behind" "I" "FormatMill") ∈ nNs := List.mem_of_getElem? (i := 7) rfl
theorem nn_8 : (Jvm.Cond.fieldLinkNest "FormatMill" (112 : Nat) "FormatMill$Numeral" "value" "J" "FormatMill") ∈ nNs := List.mem_of_getElem? (i := 8) rfl
theorem nn_9 : (Jvm.Cond.methodLinkNest "FormatMill$Place" (57 : Nat) yX3_isDecimalDigit "FormatMill") ∈ nNs := List.mem_of_getElem? (i := 9) rfl
theorem nn_10 : (Jvm.Cond.methodLinkNest "FormatMill$Numeral" (35 : Nat) yX3_isDecimalDigit "FormatMill") ∈ nNs := List.mem_of_getElem? (i := 10) rfl
theorem nNs_tab : ∀ w ∈ nNs, w.onTables = true := by
  intro w hw
  simp only [nNs, List.mem_cons, List.not_mem_nil, or_false] at hw
  rcases hw with rfl | rfl | rfl | rfl | rfl | rfl | rfl | rfl | rfl | rfl | rfl <;> rfl
theorem nNs_tbl : ∀ w ∈ nNs, w ∈ lw_tbl := by
  intro w hw
  simp only [nNs, List.mem_cons, List.not_mem_nil, or_false] at hw
  rcases hw with rfl | rfl | rfl | rfl | rfl | rfl | rfl | rfl | rfl | rfl | rfl
  · exact List.mem_of_getElem? (i := 48) rfl
  · exact List.mem_of_getElem? (i := 49) rfl
  · exact List.mem_of_getElem? (i := 50) rfl
  · exact List.mem_of_getElem? (i := 65) rfl
  · exact List.mem_of_getElem? (i := 67) rfl
  · exact List.mem_of_getElem? (i := 71) rfl
  · exact List.mem_of_getElem? (i := 73) rfl
  · exact List.mem_of_getElem? (i := 75) rfl
  · exact List.mem_of_getElem? (i := 98) rfl
  · exact List.mem_of_getElem? (i := 222) rfl
  · exact List.mem_of_getElem? (i := 259) rfl
theorem nNs_warm {s U : State} (hW : s.WarmedH U.vm) : ∀ w ∈ nNs, va_Nw w s → va_Nw w U := by
  intro w hw h
  simp only [nNs, List.mem_cons, List.not_mem_nil, or_false] at hw
  rcases hw with rfl | rfl | rfl | rfl | rfl | rfl | rfl | rfl | rfl | rfl | rfl <;> first | exact va_Nw.warmF hW h | exact va_Nw.warmM hW h
