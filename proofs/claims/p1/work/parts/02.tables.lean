/-! NAMES of the classes, fields and methods (out of the claim's printed names), and the tables by which an instruction's pool entry is resolved; every entry has the place of its word in lw_tbl -/
def RX0 : String := "SnakeCore$Builtins"
def TX0 : u_T := fun k => match k with
  | 0 => ("SnakeCore$Builtins", "heap", "LSnakeCore$Heap;", true)
  | 1 => ("SnakeCore$Builtins", "stack", "LSnakeCore$Stack;", true)
  | 2 => ("SnakeCore$Builtins", "names", "LSnakeCore$Names;", true)
  | 3 => ("SnakeCore$Builtins", "program", "LSnakeCore$Program;", true)
  | 4 => ("SnakeCore$Builtins", "out", "[B", true)
  | 5 => ("SnakeCore$Builtins", "digits", "[B", true)
  | 6 => ("SnakeCore$Builtins", "outLength", "I", false)
  | _ => ("SnakeCore$Builtins", "outTrial", "I", false)
def tyX0 : Nat → FieldType := fun k => match k with
  | 0 => .object "SnakeCore$Heap"
  | 1 => .object "SnakeCore$Stack"
  | 2 => .object "SnakeCore$Names"
  | 3 => .object "SnakeCore$Program"
  | 4 => .array .byte
  | 5 => .array .byte
  | 6 => .int
  | _ => .int
abbrev wsX00 : List Cond := u_ws RX0 TX0 8
theorem nmX0 : ∀ a, a < 8 → ∀ b, b < 8 → a ≠ b → (TX0 a).2.1 ≠ (TX0 b).2.1 := by decide +kernel
theorem tyX0_ok : ∀ k, k < 8 → parseFieldDescriptor (TX0 k).2.2.1 = some (tyX0 k) := by decide +kernel
abbrev cX0_init : ByteArray := prog_2_method_1_code
def yX0_init : MethodName := ⟨RX0, "<init>", "(LSnakeCore$Heap;LSnakeCore$Stack;LSnakeCore$Names;LSnakeCore$Program;)V"⟩
abbrev cX0_clearOut : ByteArray := prog_2_method_2_code
def yX0_clearOut : MethodName := ⟨RX0, "clearOut", "()V"⟩
abbrev cX0_outLength : ByteArray := prog_2_method_3_code
def yX0_outLength : MethodName := ⟨RX0, "outLength", "()I"⟩
abbrev cX0_outByte : ByteArray := prog_2_method_4_code
def yX0_outByte : MethodName := ⟨RX0, "outByte", "(I)I"⟩
abbrev cX0_act : ByteArray := prog_2_method_5_code
def yX0_act : MethodName := ⟨RX0, "act", "(II)I"⟩
abbrev cX0_len : ByteArray := prog_2_method_6_code
def yX0_len : MethodName := ⟨RX0, "len", "()I"⟩
abbrev cX0_range : ByteArray := prog_2_method_7_code
def yX0_range : MethodName := ⟨RX0, "range", "(I)I"⟩
abbrev cX0_push : ByteArray := prog_2_method_8_code
def yX0_push : MethodName := ⟨RX0, "push", "()I"⟩
abbrev cX0_pop : ByteArray := prog_2_method_9_code
def yX0_pop : MethodName := ⟨RX0, "pop", "()I"⟩
abbrev cX0_keys : ByteArray := prog_2_method_10_code
def yX0_keys : MethodName := ⟨RX0, "keys", "()I"⟩
abbrev cX0_text : ByteArray := prog_2_method_11_code
def yX0_text : MethodName := ⟨RX0, "text", "()I"⟩
abbrev cX0_refs : ByteArray := prog_2_method_12_code
def yX0_refs : MethodName := ⟨RX0, "refs", "()I"⟩
abbrev cX0_print : ByteArray := prog_2_method_13_code
def yX0_print : MethodName := ⟨RX0, "print", "(I)I"⟩
abbrev cX0_put : ByteArray := prog_2_method_14_code
def yX0_put : MethodName := ⟨RX0, "put", "(I)V"⟩
abbrev cX0_putWord : ByteArray := prog_2_method_15_code
def yX0_putWord : MethodName := ⟨RX0, "putWord", "(Ljava/lang/String;)V"⟩
abbrev cX0_putString : ByteArray := prog_2_method_16_code
def yX0_putString : MethodName := ⟨RX0, "putString", "(JJ)V"⟩
abbrev cX0_putInt : ByteArray := prog_2_method_17_code
def yX0_putInt : MethodName := ⟨RX0, "putInt", "(J)V"⟩
abbrev cX0_findDigits : ByteArray := prog_2_method_18_code
def yX0_findDigits : MethodName := ⟨RX0, "findDigits", "(J)I"⟩
abbrev cX0_writePart : ByteArray := prog_2_method_19_code
def yX0_writePart : MethodName := ⟨RX0, "writePart", "(JJ)V"⟩
abbrev cX0_wordOf : ByteArray := prog_2_method_20_code
def yX0_wordOf : MethodName := ⟨RX0, "wordOf", "(I)Ljava/lang/String;"⟩
abbrev cX0_writeItems : ByteArray := prog_2_method_21_code
def yX0_writeItems : MethodName := ⟨RX0, "writeItems", "(I)V"⟩
abbrev cX0_writeTitled : ByteArray := prog_2_method_22_code
def yX0_writeTitled : MethodName := ⟨RX0, "writeTitled", "(I)V"⟩
def RX1 : String := "SnakeCore$Expressions"
def TX1 : u_T := fun k => match k with
  | 0 => ("SnakeCore$Expressions", "lexer", "LSnakeCore$Lexer;", true)
  | 1 => ("SnakeCore$Expressions", "program", "LSnakeCore$Program;", true)
  | 2 => ("SnakeCore$Expressions", "scopes", "LSnakeCore$Scopes;", true)
  | 3 => ("SnakeCore$Expressions", "target", "I", false)
  | _ => ("SnakeCore$Expressions", "targetPlace", "I", false)
def tyX1 : Nat → FieldType := fun k => match k with
  | 0 => .object "SnakeCore$Lexer"
  | 1 => .object "SnakeCore$Program"
  | 2 => .object "SnakeCore$Scopes"
  | 3 => .int
  | _ => .int
abbrev wsX10 : List Cond := u_ws RX1 TX1 5
theorem nmX1 : ∀ a, a < 5 → ∀ b, b < 5 → a ≠ b → (TX1 a).2.1 ≠ (TX1 b).2.1 := by decide +kernel
theorem tyX1_ok : ∀ k, k < 5 → parseFieldDescriptor (TX1 k).2.2.1 = some (tyX1 k) := by decide +kernel
abbrev cX1_init : ByteArray := prog_3_method_1_code
def yX1_init : MethodName := ⟨RX1, "<init>", "(LSnakeCore$Lexer;LSnakeCore$Program;LSnakeCore$Scopes;)V"⟩
abbrev cX1_parse : ByteArray := prog_3_method_2_code
def yX1_parse : MethodName := ⟨RX1, "parse", "(I)V"⟩
abbrev cX1_both : ByteArray := prog_3_method_3_code
def yX1_both : MethodName := ⟨RX1, "both", "(I)V"⟩
abbrev cX1_negation : ByteArray := prog_3_method_4_code
def yX1_negation : MethodName := ⟨RX1, "negation", "(I)V"⟩
abbrev cX1_goesDeeper : ByteArray := prog_3_method_5_code
def yX1_goesDeeper : MethodName := ⟨RX1, "goesDeeper", "(I)Z"⟩
abbrev cX1_comparison : ByteArray := prog_3_method_6_code
def yX1_comparison : MethodName := ⟨RX1, "comparison", "(I)V"⟩
abbrev cX1_comparisonOf : ByteArray := prog_3_method_7_code
def yX1_comparisonOf : MethodName := ⟨RX1, "comparisonOf", "(I)I"⟩
abbrev cX1_sum : ByteArray := prog_3_method_8_code
def yX1_sum : MethodName := ⟨RX1, "sum", "(I)V"⟩
abbrev cX1_term : ByteArray := prog_3_method_9_code
def yX1_term : MethodName := ⟨RX1, "term", "(I)V"⟩
abbrev cX1_termOf : ByteArray := prog_3_method_10_code
def yX1_termOf : MethodName := ⟨RX1, "termOf", "(I)I"⟩
abbrev cX1_factor : ByteArray := prog_3_method_11_code
def yX1_factor : MethodName := ⟨RX1, "factor", "(I)V"⟩
abbrev cX1_post : ByteArray := prog_3_method_12_code
def yX1_post : MethodName := ⟨RX1, "post", "(I)V"⟩
abbrev cX1_made : ByteArray := prog_3_method_13_code
def yX1_made : MethodName := ⟨RX1, "made", "(II)V"⟩
abbrev cX1_index : ByteArray := prog_3_method_14_code
def yX1_index : MethodName := ⟨RX1, "index", "(I)V"⟩
abbrev cX1_attribute : ByteArray := prog_3_method_15_code
def yX1_attribute : MethodName := ⟨RX1, "attribute", "()V"⟩
abbrev cX1_list : ByteArray := prog_3_method_16_code
def yX1_list : MethodName := ⟨RX1, "list", "(III)I"⟩
abbrev cX1_pairs : ByteArray := prog_3_method_17_code
def yX1_pairs : MethodName := ⟨RX1, "pairs", "(I)I"⟩
abbrev cX1_atom : ByteArray := prog_3_method_18_code
def yX1_atom : MethodName := ⟨RX1, "atom", "(I)V"⟩
abbrev cX1_constant : ByteArray := prog_3_method_19_code
def yX1_constant : MethodName := ⟨RX1, "constant", "(JJ)V"⟩
abbrev cX1_name : ByteArray := prog_3_method_20_code
def yX1_name : MethodName := ⟨RX1, "name", "()V"⟩
def RX2 : String := "SnakeCore$Heap"
def TX2 : u_T := fun k => match k with
  | 0 => ("SnakeCore$Heap", "kinds", "[I", true)
  | 1 => ("SnakeCore$Heap", "held", "[I", true)
  | 2 => ("SnakeCore$Heap", "named", "[I", true)
  | 3 => ("SnakeCore$Heap", "kept", "[I", true)
  | 4 => ("SnakeCore$Heap", "firstLinks", "[I", true)
  | 5 => ("SnakeCore$Heap", "secondLinks", "[I", true)
  | 6 => ("SnakeCore$Heap", "infos", "[I", true)
  | 7 => ("SnakeCore$Heap", "sizes", "[I", true)
  | 8 => ("SnakeCore$Heap", "rows", "[[J", true)
  | 9 => ("SnakeCore$Heap", "counts", "[I", true)
  | 10 => ("SnakeCore$Heap", "spare", "[I", true)
  | 11 => ("SnakeCore$Heap", "waiting", "[I", true)
  | 12 => ("SnakeCore$Heap", "reached", "[Z", true)
  | 13 => ("SnakeCore$Heap", "alive", "I", false)
  | 14 => ("SnakeCore$Heap", "spares", "I", false)
  | 15 => ("SnakeCore$Heap", "fresh", "I", false)
  | _ => ("SnakeCore$Heap", "waitingTop", "I", false)
def tyX2 : Nat → FieldType := fun k => match k with
  | 0 => .array .int
  | 1 => .array .int
  | 2 => .array .int
  | 3 => .array .int
  | 4 => .array .int
  | 5 => .array .int
  | 6 => .array .int
  | 7 => .array .int
  | 8 => .array (.array .long)
  | 9 => .array .int
  | 10 => .array .int
  | 11 => .array .int
  | 12 => .array .boolean
  | 13 => .int
  | 14 => .int
  | 15 => .int
  | _ => .int
abbrev wsX20 : List Cond := u_ws RX2 TX2 17
theorem nmX2 : ∀ a, a < 17 → ∀ b, b < 17 → a ≠ b → (TX2 a).2.1 ≠ (TX2 b).2.1 := by decide +kernel
theorem tyX2_ok : ∀ k, k < 17 → parseFieldDescriptor (TX2 k).2.2.1 = some (tyX2 k) := by decide +kernel
abbrev cX2_init : ByteArray := prog_4_method_1_code
def yX2_init : MethodName := ⟨RX2, "<init>", "()V"⟩
abbrev cX2_isId : ByteArray := prog_4_method_2_code
def yX2_isId : MethodName := ⟨RX2, "isId", "(I)Z"⟩
abbrev cX2_alive : ByteArray := prog_4_method_3_code
def yX2_alive : MethodName := ⟨RX2, "alive", "()I"⟩
abbrev cX2_countOf : ByteArray := prog_4_method_4_code
def yX2_countOf : MethodName := ⟨RX2, "countOf", "(I)I"⟩
abbrev cX2_create : ByteArray := prog_4_method_5_code
def yX2_create : MethodName := ⟨RX2, "create", "(I)I"⟩
abbrev cX2_remove : ByteArray := prog_4_method_6_code
def yX2_remove : MethodName := ⟨RX2, "remove", "(I)V"⟩
abbrev cX2_kindAt : ByteArray := prog_4_method_7_code
def yX2_kindAt : MethodName := ⟨RX2, "kindAt", "(I)I"⟩
abbrev cX2_sizeAt : ByteArray := prog_4_method_8_code
def yX2_sizeAt : MethodName := ⟨RX2, "sizeAt", "(I)I"⟩
abbrev cX2_firstAt : ByteArray := prog_4_method_9_code
def yX2_firstAt : MethodName := ⟨RX2, "firstAt", "(I)I"⟩
abbrev cX2_secondAt : ByteArray := prog_4_method_10_code
def yX2_secondAt : MethodName := ⟨RX2, "secondAt", "(I)I"⟩
abbrev cX2_infoAt : ByteArray := prog_4_method_11_code
def yX2_infoAt : MethodName := ⟨RX2, "infoAt", "(I)I"⟩
abbrev cX2_link : ByteArray := prog_4_method_12_code
def yX2_link : MethodName := ⟨RX2, "link", "(IIII)V"⟩
abbrev cX2_hold : ByteArray := prog_4_method_13_code
def yX2_hold : MethodName := ⟨RX2, "hold", "([II)V"⟩
abbrev cX2_release : ByteArray := prog_4_method_14_code
def yX2_release : MethodName := ⟨RX2, "release", "([II)V"⟩
abbrev cX2_unkeep : ByteArray := prog_4_method_15_code
def yX2_unkeep : MethodName := ⟨RX2, "unkeep", "(I)V"⟩
abbrev cX2_holdsOf : ByteArray := prog_4_method_16_code
def yX2_holdsOf : MethodName := ⟨RX2, "holdsOf", "(I)I"⟩
abbrev cX2_collect : ByteArray := prog_4_method_17_code
def yX2_collect : MethodName := ⟨RX2, "collect", "()I"⟩
abbrev cX2_visit : ByteArray := prog_4_method_18_code
def yX2_visit : MethodName := ⟨RX2, "visit", "(II)V"⟩
abbrev cX2_touch : ByteArray := prog_4_method_19_code
def yX2_touch : MethodName := ⟨RX2, "touch", "(II)V"⟩
abbrev cX2_widthOf : ByteArray := prog_4_method_20_code
def yX2_widthOf : MethodName := ⟨RX2, "widthOf", "(I)I"⟩
abbrev cX2_mostOf : ByteArray := prog_4_method_21_code
def yX2_mostOf : MethodName := ⟨RX2, "mostOf", "(I)I"⟩
abbrev cX2_placeOf : ByteArray := prog_4_method_22_code
def yX2_placeOf : MethodName := ⟨RX2, "placeOf", "(II)I"⟩
abbrev cX2_hiOf : ByteArray := prog_4_method_23_code
def yX2_hiOf : MethodName := ⟨RX2, "hiOf", "(II)J"⟩
abbrev cX2_loOf : ByteArray := prog_4_method_24_code
def yX2_loOf : MethodName := ⟨RX2, "loOf", "(II)J"⟩
abbrev cX2_keyHi : ByteArray := prog_4_method_25_code
def yX2_keyHi : MethodName := ⟨RX2, "keyHi", "(II)J"⟩
abbrev cX2_keyLo : ByteArray := prog_4_method_26_code
def yX2_keyLo : MethodName := ⟨RX2, "keyLo", "(II)J"⟩
abbrev cX2_set : ByteArray := prog_4_method_27_code
def yX2_set : MethodName := ⟨RX2, "set", "(IIJJ)V"⟩
abbrev cX2_fill : ByteArray := prog_4_method_28_code
def yX2_fill : MethodName := ⟨RX2, "fill", "(IIJJ)V"⟩
abbrev cX2_find : ByteArray := prog_4_method_29_code
def yX2_find : MethodName := ⟨RX2, "find", "(IJJ)I"⟩
abbrev cX2_holderOf : ByteArray := prog_4_method_30_code
def yX2_holderOf : MethodName := ⟨RX2, "holderOf", "(IJJ)I"⟩
abbrev cX2_append : ByteArray := prog_4_method_31_code
def yX2_append : MethodName := ⟨RX2, "append", "(IJJJJ)Z"⟩
abbrev cX2_growRow : ByteArray := prog_4_method_32_code
def yX2_growRow : MethodName := ⟨RX2, "growRow", "(II)V"⟩
abbrev cX2_appendAll : ByteArray := prog_4_method_33_code
def yX2_appendAll : MethodName := ⟨RX2, "appendAll", "(II)V"⟩
abbrev cX2_openFrame : ByteArray := prog_4_method_34_code
def yX2_openFrame : MethodName := ⟨RX2, "openFrame", "(II)V"⟩
abbrev cX2_delete : ByteArray := prog_4_method_35_code
def yX2_delete : MethodName := ⟨RX2, "delete", "(II)V"⟩
def RX3 : String := "SnakeCore$Lexer"
def TX3 : u_T := fun k => match k with
  | 0 => ("SnakeCore$Lexer", "tape", "[B", true)
  | 1 => ("SnakeCore$Lexer", "names", "LSnakeCore$Names;", true)
  | 2 => ("SnakeCore$Lexer", "length", "I", false)
  | 3 => ("SnakeCore$Lexer", "position", "I", false)
  | 4 => ("SnakeCore$Lexer", "start", "I", false)
  | 5 => ("SnakeCore$Lexer", "token", "I", false)
  | 6 => ("SnakeCore$Lexer", "line", "I", false)
  | 7 => ("SnakeCore$Lexer", "linesRead", "I", false)
  | 8 => ("SnakeCore$Lexer", "indent", "I", false)
  | 9 => ("SnakeCore$Lexer", "name", "I", false)
  | 10 => ("SnakeCore$Lexer", "number", "J", false)
  | 11 => ("SnakeCore$Lexer", "textHi", "J", false)
  | 12 => ("SnakeCore$Lexer", "textLo", "J", false)
  | _ => ("SnakeCore$Lexer", "fault", "I", false)
def tyX3 : Nat → FieldType := fun k => match k with
  | 0 => .array .byte
  | 1 => .object "SnakeCore$Names"
  | 2 => .int
  | 3 => .int
  | 4 => .int
  | 5 => .int
  | 6 => .int
  | 7 => .int
  | 8 => .int
  | 9 => .int
  | 10 => .long
  | 11 => .long
  | 12 => .long
  | _ => .int
abbrev wsX30 : List Cond := u_ws RX3 TX3 14
theorem nmX3 : ∀ a, a < 14 → ∀ b, b < 14 → a ≠ b → (TX3 a).2.1 ≠ (TX3 b).2.1 := by decide +kernel
theorem tyX3_ok : ∀ k, k < 14 → parseFieldDescriptor (TX3 k).2.2.1 = some (tyX3 k) := by decide +kernel
abbrev cX3_init : ByteArray := prog_5_method_1_code
def yX3_init : MethodName := ⟨RX3, "<init>", "([BLSnakeCore$Names;)V"⟩
abbrev cX3_byteAt : ByteArray := prog_5_method_2_code
def yX3_byteAt : MethodName := ⟨RX3, "byteAt", "(I)I"⟩
abbrev cX3_begin : ByteArray := prog_5_method_3_code
def yX3_begin : MethodName := ⟨RX3, "begin", "(I)V"⟩
abbrev cX3_fail : ByteArray := prog_5_method_4_code
def yX3_fail : MethodName := ⟨RX3, "fail", "()V"⟩
abbrev cX3_nextLine : ByteArray := prog_5_method_5_code
def yX3_nextLine : MethodName := ⟨RX3, "nextLine", "()V"⟩
abbrev cX3_skipLine : ByteArray := prog_5_method_6_code
def yX3_skipLine : MethodName := ⟨RX3, "skipLine", "()V"⟩
abbrev cX3_findLine : ByteArray := prog_5_method_7_code
def yX3_findLine : MethodName := ⟨RX3, "findLine", "()V"⟩
abbrev cX3_skipBlanks : ByteArray := prog_5_method_8_code
def yX3_skipBlanks : MethodName := ⟨RX3, "skipBlanks", "()V"⟩
abbrev cX3_goTo : ByteArray := prog_5_method_9_code
def yX3_goTo : MethodName := ⟨RX3, "goTo", "(I)V"⟩
abbrev cX3_pass : ByteArray := prog_5_method_10_code
def yX3_pass : MethodName := ⟨RX3, "pass", "(I)V"⟩
abbrev cX3_read : ByteArray := prog_5_method_11_code
def yX3_read : MethodName := ⟨RX3, "read", "()V"⟩
abbrev cX3_readName : ByteArray := prog_5_method_12_code
def yX3_readName : MethodName := ⟨RX3, "readName", "()V"⟩
abbrev cX3_readNumber : ByteArray := prog_5_method_13_code
def yX3_readNumber : MethodName := ⟨RX3, "readNumber", "()V"⟩
abbrev cX3_readText : ByteArray := prog_5_method_14_code
def yX3_readText : MethodName := ⟨RX3, "readText", "()V"⟩
abbrev cX3_readSign : ByteArray := prog_5_method_15_code
def yX3_readSign : MethodName := ⟨RX3, "readSign", "(I)V"⟩
abbrev cX3_signWithEqual : ByteArray := prog_5_method_16_code
def yX3_signWithEqual : MethodName := ⟨RX3, "signWithEqual", "(I)I"⟩
abbrev cX3_signAlone : ByteArray := prog_5_method_17_code
def yX3_signAlone : MethodName := ⟨RX3, "signAlone", "(I)I"⟩
abbrev cX3_onlyName : ByteArray := prog_5_method_18_code
def yX3_onlyName : MethodName := ⟨RX3, "onlyName", "(I)I"⟩
def RX4 : String := "SnakeCore$Machine"
def TX4 : u_T := fun k => match k with
  | 0 => ("SnakeCore$Machine", "program", "LSnakeCore$Program;", true)
  | 1 => ("SnakeCore$Machine", "heap", "LSnakeCore$Heap;", true)
  | 2 => ("SnakeCore$Machine", "names", "LSnakeCore$Names;", true)
  | 3 => ("SnakeCore$Machine", "stack", "LSnakeCore$Stack;", true)
  | 4 => ("SnakeCore$Machine", "operations", "LSnakeCore$Operations;", true)
  | 5 => ("SnakeCore$Machine", "builtins", "LSnakeCore$Builtins;", true)
  | 6 => ("SnakeCore$Machine", "callPlaces", "[I", true)
  | 7 => ("SnakeCore$Machine", "callLines", "[I", true)
  | 8 => ("SnakeCore$Machine", "callHeights", "[I", true)
  | 9 => ("SnakeCore$Machine", "callTries", "[I", true)
  | 10 => ("SnakeCore$Machine", "callFrames", "[I", true)
  | 11 => ("SnakeCore$Machine", "callMade", "[I", true)
  | 12 => ("SnakeCore$Machine", "openTries", "[I", true)
  | 13 => ("SnakeCore$Machine", "calls", "I", false)
  | 14 => ("SnakeCore$Machine", "tries", "I", false)
  | 15 => ("SnakeCore$Machine", "frame", "I", false)
  | 16 => ("SnakeCore$Machine", "place", "I", false)
  | 17 => ("SnakeCore$Machine", "line", "I", false)
  | 18 => ("SnakeCore$Machine", "steps", "I", false)
  | _ => ("SnakeCore$Machine", "fuel", "I", false)
def tyX4 : Nat → FieldType := fun k => match k with
  | 0 => .object "SnakeCore$Program"
  | 1 => .object "SnakeCore$Heap"
  | 2 => .object "SnakeCore$Names"
  | 3 => .object "SnakeCore$Stack"
  | 4 => .object "SnakeCore$Operations"
  | 5 => .object "SnakeCore$Builtins"
  | 6 => .array .int
  | 7 => .array .int
  | 8 => .array .int
  | 9 => .array .int
  | 10 => .array .int
  | 11 => .array .int
  | 12 => .array .int
  | 13 => .int
  | 14 => .int
  | 15 => .int
  | 16 => .int
  | 17 => .int
  | 18 => .int
  | _ => .int
abbrev wsX40 : List Cond := u_ws RX4 TX4 20
theorem nmX4 : ∀ a, a < 20 → ∀ b, b < 20 → a ≠ b → (TX4 a).2.1 ≠ (TX4 b).2.1 := by decide +kernel
theorem tyX4_ok : ∀ k, k < 20 → parseFieldDescriptor (TX4 k).2.2.1 = some (tyX4 k) := by decide +kernel
abbrev cX4_init : ByteArray := prog_6_method_1_code
def yX4_init : MethodName := ⟨RX4, "<init>", "(LSnakeCore$Program;LSnakeCore$Heap;LSnakeCore$Names;LSnakeCore$Stack;LSnakeCore$Builtins;)V"⟩
abbrev cX4_stepsDone : ByteArray := prog_6_method_2_code
def yX4_stepsDone : MethodName := ⟨RX4, "stepsDone", "()I"⟩
abbrev cX4_forgetSteps : ByteArray := prog_6_method_3_code
def yX4_forgetSteps : MethodName := ⟨RX4, "forgetSteps", "()V"⟩
abbrev cX4_errorLine : ByteArray := prog_6_method_4_code
def yX4_errorLine : MethodName := ⟨RX4, "errorLine", "()I"⟩
abbrev cX4_perform : ByteArray := prog_6_method_5_code
def yX4_perform : MethodName := ⟨RX4, "perform", "(II)I"⟩
abbrev cX4_operand : ByteArray := prog_6_method_6_code
def yX4_operand : MethodName := ⟨RX4, "operand", "()I"⟩
abbrev cX4_callsBuiltIn : ByteArray := prog_6_method_7_code
def yX4_callsBuiltIn : MethodName := ⟨RX4, "callsBuiltIn", "()Z"⟩
abbrev cX4_builtIn : ByteArray := prog_6_method_8_code
def yX4_builtIn : MethodName := ⟨RX4, "builtIn", "()I"⟩
abbrev cX4_isCaught : ByteArray := prog_6_method_9_code
def yX4_isCaught : MethodName := ⟨RX4, "isCaught", "(I)Z"⟩
abbrev cX4_endCalls : ByteArray := prog_6_method_10_code
def yX4_endCalls : MethodName := ⟨RX4, "endCalls", "(I)V"⟩
abbrev cX4_endCall : ByteArray := prog_6_method_11_code
def yX4_endCall : MethodName := ⟨RX4, "endCall", "()V"⟩
abbrev cX4_flow : ByteArray := prog_6_method_12_code
def yX4_flow : MethodName := ⟨RX4, "flow", "(I)I"⟩
abbrev cX4_step : ByteArray := prog_6_method_13_code
def yX4_step : MethodName := ⟨RX4, "step", "(I)I"⟩
abbrev cX4_jumpIf : ByteArray := prog_6_method_14_code
def yX4_jumpIf : MethodName := ⟨RX4, "jumpIf", "(ZZ)I"⟩
abbrev cX4_beginFor : ByteArray := prog_6_method_15_code
def yX4_beginFor : MethodName := ⟨RX4, "beginFor", "()I"⟩
abbrev cX4_nextItem : ByteArray := prog_6_method_16_code
def yX4_nextItem : MethodName := ⟨RX4, "nextItem", "(I)I"⟩
abbrev cX4_beginTry : ByteArray := prog_6_method_17_code
def yX4_beginTry : MethodName := ⟨RX4, "beginTry", "(I)I"⟩
abbrev cX4_raised : ByteArray := prog_6_method_18_code
def yX4_raised : MethodName := ⟨RX4, "raised", "()I"⟩
abbrev cX4_naming : ByteArray := prog_6_method_19_code
def yX4_naming : MethodName := ⟨RX4, "naming", "(I)I"⟩
abbrev cX4_constant : ByteArray := prog_6_method_20_code
def yX4_constant : MethodName := ⟨RX4, "constant", "(I)I"⟩
abbrev cX4_frameUp : ByteArray := prog_6_method_21_code
def yX4_frameUp : MethodName := ⟨RX4, "frameUp", "(I)I"⟩
abbrev cX4_load : ByteArray := prog_6_method_22_code
def yX4_load : MethodName := ⟨RX4, "load", "()Z"⟩
abbrev cX4_store : ByteArray := prog_6_method_23_code
def yX4_store : MethodName := ⟨RX4, "store", "()I"⟩
abbrev cX4_unbind : ByteArray := prog_6_method_24_code
def yX4_unbind : MethodName := ⟨RX4, "unbind", "()I"⟩
abbrev cX4_callee : ByteArray := prog_6_method_25_code
def yX4_callee : MethodName := ⟨RX4, "callee", "()I"⟩
abbrev cX4_makeFunction : ByteArray := prog_6_method_26_code
def yX4_makeFunction : MethodName := ⟨RX4, "makeFunction", "(I)I"⟩
abbrev cX4_makeClass : ByteArray := prog_6_method_27_code
def yX4_makeClass : MethodName := ⟨RX4, "makeClass", "()I"⟩
abbrev cX4_call : ByteArray := prog_6_method_28_code
def yX4_call : MethodName := ⟨RX4, "call", "(I)I"⟩
abbrev cX4_makeInstance : ByteArray := prog_6_method_29_code
def yX4_makeInstance : MethodName := ⟨RX4, "makeInstance", "(II)I"⟩
abbrev cX4_enter : ByteArray := prog_6_method_30_code
def yX4_enter : MethodName := ⟨RX4, "enter", "(IIII)I"⟩
abbrev cX4_giveBack : ByteArray := prog_6_method_31_code
def yX4_giveBack : MethodName := ⟨RX4, "giveBack", "()I"⟩
def RX5 : String := "SnakeCore$Names"
def TX5 : u_T := fun k => match k with
  | 0 => ("SnakeCore$Names", "heap", "LSnakeCore$Heap;", true)
  | 1 => ("SnakeCore$Names", "nameHi", "[J", true)
  | 2 => ("SnakeCore$Names", "nameLo", "[J", true)
  | 3 => ("SnakeCore$Names", "buckets", "[I", true)
  | 4 => ("SnakeCore$Names", "chain", "[I", true)
  | 5 => ("SnakeCore$Names", "valueHi", "[J", true)
  | 6 => ("SnakeCore$Names", "valueLo", "[J", true)
  | 7 => ("SnakeCore$Names", "size", "I", false)
  | _ => ("SnakeCore$Names", "bound", "I", false)
def tyX5 : Nat → FieldType := fun k => match k with
  | 0 => .object "SnakeCore$Heap"
  | 1 => .array .long
  | 2 => .array .long
  | 3 => .array .int
  | 4 => .array .int
  | 5 => .array .long
  | 6 => .array .long
  | 7 => .int
  | _ => .int
abbrev wsX50 : List Cond := u_ws RX5 TX5 9
theorem nmX5 : ∀ a, a < 9 → ∀ b, b < 9 → a ≠ b → (TX5 a).2.1 ≠ (TX5 b).2.1 := by decide +kernel
theorem tyX5_ok : ∀ k, k < 9 → parseFieldDescriptor (TX5 k).2.2.1 = some (tyX5 k) := by decide +kernel
abbrev cX5_init : ByteArray := prog_7_method_1_code
def yX5_init : MethodName := ⟨RX5, "<init>", "(LSnakeCore$Heap;)V"⟩
abbrev cX5_learn : ByteArray := prog_7_method_2_code
def yX5_learn : MethodName := ⟨RX5, "learn", "(Ljava/lang/String;)V"⟩
abbrev cX5_numberOf : ByteArray := prog_7_method_3_code
def yX5_numberOf : MethodName := ⟨RX5, "numberOf", "(JJ)I"⟩
abbrev cX5_builtInOf : ByteArray := prog_7_method_4_code
def yX5_builtInOf : MethodName := ⟨RX5, "builtInOf", "(I)I"⟩
abbrev cX5_known : ByteArray := prog_7_method_5_code
def yX5_known : MethodName := ⟨RX5, "known", "(I)Z"⟩
abbrev cX5_nameHi : ByteArray := prog_7_method_6_code
def yX5_nameHi : MethodName := ⟨RX5, "nameHi", "(I)J"⟩
abbrev cX5_nameLo : ByteArray := prog_7_method_7_code
def yX5_nameLo : MethodName := ⟨RX5, "nameLo", "(I)J"⟩
abbrev cX5_hiOf : ByteArray := prog_7_method_8_code
def yX5_hiOf : MethodName := ⟨RX5, "hiOf", "(I)J"⟩
abbrev cX5_loOf : ByteArray := prog_7_method_9_code
def yX5_loOf : MethodName := ⟨RX5, "loOf", "(I)J"⟩
abbrev cX5_boundCount : ByteArray := prog_7_method_10_code
def yX5_boundCount : MethodName := ⟨RX5, "boundCount", "()I"⟩
abbrev cX5_assign : ByteArray := prog_7_method_11_code
def yX5_assign : MethodName := ⟨RX5, "assign", "(IJJ)V"⟩
def RX6 : String := "SnakeCore$Operations"
def TX6 : u_T := fun k => match k with
  | 0 => ("SnakeCore$Operations", "heap", "LSnakeCore$Heap;", true)
  | 1 => ("SnakeCore$Operations", "stack", "LSnakeCore$Stack;", true)
  | _ => ("SnakeCore$Operations", "names", "LSnakeCore$Names;", true)
def tyX6 : Nat → FieldType := fun k => match k with
  | 0 => .object "SnakeCore$Heap"
  | 1 => .object "SnakeCore$Stack"
  | _ => .object "SnakeCore$Names"
abbrev wsX60 : List Cond := u_ws RX6 TX6 3
theorem nmX6 : ∀ a, a < 3 → ∀ b, b < 3 → a ≠ b → (TX6 a).2.1 ≠ (TX6 b).2.1 := by decide +kernel
theorem tyX6_ok : ∀ k, k < 3 → parseFieldDescriptor (TX6 k).2.2.1 = some (tyX6 k) := by decide +kernel
abbrev cX6_init : ByteArray := prog_8_method_1_code
def yX6_init : MethodName := ⟨RX6, "<init>", "(LSnakeCore$Heap;LSnakeCore$Stack;LSnakeCore$Names;)V"⟩
abbrev cX6_act : ByteArray := prog_8_method_2_code
def yX6_act : MethodName := ⟨RX6, "act", "(I)I"⟩
abbrev cX6_act_ : ByteArray := prog_8_method_3_code
def yX6_act_ : MethodName := ⟨RX6, "act", "(II)I"⟩
abbrev cX6_areBoth : ByteArray := prog_8_method_4_code
def yX6_areBoth : MethodName := ⟨RX6, "areBoth", "(I)Z"⟩
abbrev cX6_areEqual : ByteArray := prog_8_method_5_code
def yX6_areEqual : MethodName := ⟨RX6, "areEqual", "()Z"⟩
abbrev cX6_negate : ByteArray := prog_8_method_6_code
def yX6_negate : MethodName := ⟨RX6, "negate", "()I"⟩
abbrev cX6_add : ByteArray := prog_8_method_7_code
def yX6_add : MethodName := ⟨RX6, "add", "()I"⟩
abbrev cX6_joinStrings : ByteArray := prog_8_method_8_code
def yX6_joinStrings : MethodName := ⟨RX6, "joinStrings", "()I"⟩
abbrev cX6_joinLists : ByteArray := prog_8_method_9_code
def yX6_joinLists : MethodName := ⟨RX6, "joinLists", "()I"⟩
abbrev cX6_subtract : ByteArray := prog_8_method_10_code
def yX6_subtract : MethodName := ⟨RX6, "subtract", "()I"⟩
abbrev cX6_multiply : ByteArray := prog_8_method_11_code
def yX6_multiply : MethodName := ⟨RX6, "multiply", "()I"⟩
abbrev cX6_divide : ByteArray := prog_8_method_12_code
def yX6_divide : MethodName := ⟨RX6, "divide", "()I"⟩
abbrev cX6_remainder : ByteArray := prog_8_method_13_code
def yX6_remainder : MethodName := ⟨RX6, "remainder", "()I"⟩
abbrev cX6_compare : ByteArray := prog_8_method_14_code
def yX6_compare : MethodName := ⟨RX6, "compare", "(I)I"⟩
abbrev cX6_compareStrings : ByteArray := prog_8_method_15_code
def yX6_compareStrings : MethodName := ⟨RX6, "compareStrings", "()I"⟩
abbrev cX6_isIn : ByteArray := prog_8_method_16_code
def yX6_isIn : MethodName := ⟨RX6, "isIn", "()I"⟩
abbrev cX6_locate : ByteArray := prog_8_method_17_code
def yX6_locate : MethodName := ⟨RX6, "locate", "(II)I"⟩
abbrev cX6_entryAt : ByteArray := prog_8_method_18_code
def yX6_entryAt : MethodName := ⟨RX6, "entryAt", "(JI)I"⟩
abbrev cX6_index : ByteArray := prog_8_method_19_code
def yX6_index : MethodName := ⟨RX6, "index", "(I)I"⟩
abbrev cX6_indexString : ByteArray := prog_8_method_20_code
def yX6_indexString : MethodName := ⟨RX6, "indexString", "(I)I"⟩
abbrev cX6_putIndex : ByteArray := prog_8_method_21_code
def yX6_putIndex : MethodName := ⟨RX6, "putIndex", "(III)I"⟩
abbrev cX6_deleteIndex : ByteArray := prog_8_method_22_code
def yX6_deleteIndex : MethodName := ⟨RX6, "deleteIndex", "()I"⟩
abbrev cX6_attribute : ByteArray := prog_8_method_23_code
def yX6_attribute : MethodName := ⟨RX6, "attribute", "(II)I"⟩
abbrev cX6_hasAttributes : ByteArray := prog_8_method_24_code
def yX6_hasAttributes : MethodName := ⟨RX6, "hasAttributes", "(I)Z"⟩
abbrev cX6_putAttribute : ByteArray := prog_8_method_25_code
def yX6_putAttribute : MethodName := ⟨RX6, "putAttribute", "(III)I"⟩
abbrev cX6_deleteAttribute : ByteArray := prog_8_method_26_code
def yX6_deleteAttribute : MethodName := ⟨RX6, "deleteAttribute", "(I)I"⟩
abbrev cX6_makeList : ByteArray := prog_8_method_27_code
def yX6_makeList : MethodName := ⟨RX6, "makeList", "(I)I"⟩
abbrev cX6_makeDict : ByteArray := prog_8_method_28_code
def yX6_makeDict : MethodName := ⟨RX6, "makeDict", "(I)I"⟩
def RX7 : String := "SnakeCore$Program"
def TX7 : u_T := fun k => match k with
  | 0 => ("SnakeCore$Program", "code", "[I", true)
  | 1 => ("SnakeCore$Program", "constantHi", "[J", true)
  | 2 => ("SnakeCore$Program", "constantLo", "[J", true)
  | 3 => ("SnakeCore$Program", "starts", "[I", true)
  | 4 => ("SnakeCore$Program", "parameters", "[I", true)
  | 5 => ("SnakeCore$Program", "locals", "[I", true)
  | 6 => ("SnakeCore$Program", "titles", "[I", true)
  | 7 => ("SnakeCore$Program", "top", "I", false)
  | 8 => ("SnakeCore$Program", "constants", "I", false)
  | 9 => ("SnakeCore$Program", "functions", "I", false)
  | _ => ("SnakeCore$Program", "full", "Z", false)
def tyX7 : Nat → FieldType := fun k => match k with
  | 0 => .array .int
  | 1 => .array .long
  | 2 => .array .long
  | 3 => .array .int
  | 4 => .array .int
  | 5 => .array .int
  | 6 => .array .int
  | 7 => .int
  | 8 => .int
  | 9 => .int
  | _ => .boolean
abbrev wsX70 : List Cond := u_ws RX7 TX7 11
theorem nmX7 : ∀ a, a < 11 → ∀ b, b < 11 → a ≠ b → (TX7 a).2.1 ≠ (TX7 b).2.1 := by decide +kernel
theorem tyX7_ok : ∀ k, k < 11 → parseFieldDescriptor (TX7 k).2.2.1 = some (tyX7 k) := by decide +kernel
abbrev cX7_init : ByteArray := prog_9_method_1_code
def yX7_init : MethodName := ⟨RX7, "<init>", "()V"⟩
abbrev cX7_at : ByteArray := prog_9_method_2_code
def yX7_at : MethodName := ⟨RX7, "at", "(I)I"⟩
abbrev cX7_put : ByteArray := prog_9_method_3_code
def yX7_put : MethodName := ⟨RX7, "put", "(I)I"⟩
abbrev cX7_put_ : ByteArray := prog_9_method_4_code
def yX7_put_ : MethodName := ⟨RX7, "put", "(II)I"⟩
abbrev cX7_put__ : ByteArray := prog_9_method_5_code
def yX7_put__ : MethodName := ⟨RX7, "put", "(III)I"⟩
abbrev cX7_hasRoom : ByteArray := prog_9_method_6_code
def yX7_hasRoom : MethodName := ⟨RX7, "hasRoom", "(I)Z"⟩
abbrev cX7_patch : ByteArray := prog_9_method_7_code
def yX7_patch : MethodName := ⟨RX7, "patch", "(II)V"⟩
abbrev cX7_putConstant : ByteArray := prog_9_method_8_code
def yX7_putConstant : MethodName := ⟨RX7, "putConstant", "(JJ)V"⟩
abbrev cX7_isConstant : ByteArray := prog_9_method_9_code
def yX7_isConstant : MethodName := ⟨RX7, "isConstant", "(I)Z"⟩
abbrev cX7_constantHi : ByteArray := prog_9_method_10_code
def yX7_constantHi : MethodName := ⟨RX7, "constantHi", "(I)J"⟩
abbrev cX7_constantLo : ByteArray := prog_9_method_11_code
def yX7_constantLo : MethodName := ⟨RX7, "constantLo", "(I)J"⟩
abbrev cX7_cut : ByteArray := prog_9_method_12_code
def yX7_cut : MethodName := ⟨RX7, "cut", "(III)V"⟩
abbrev cX7_isFunction : ByteArray := prog_9_method_13_code
def yX7_isFunction : MethodName := ⟨RX7, "isFunction", "(I)Z"⟩
abbrev cX7_addFunction : ByteArray := prog_9_method_14_code
def yX7_addFunction : MethodName := ⟨RX7, "addFunction", "(I)I"⟩
abbrev cX7_addParameter : ByteArray := prog_9_method_15_code
def yX7_addParameter : MethodName := ⟨RX7, "addParameter", "(I)V"⟩
abbrev cX7_addLocal : ByteArray := prog_9_method_16_code
def yX7_addLocal : MethodName := ⟨RX7, "addLocal", "(I)I"⟩
abbrev cX7_startOf : ByteArray := prog_9_method_17_code
def yX7_startOf : MethodName := ⟨RX7, "startOf", "(I)I"⟩
abbrev cX7_parametersOf : ByteArray := prog_9_method_18_code
def yX7_parametersOf : MethodName := ⟨RX7, "parametersOf", "(I)I"⟩
abbrev cX7_localsOf : ByteArray := prog_9_method_19_code
def yX7_localsOf : MethodName := ⟨RX7, "localsOf", "(I)I"⟩
abbrev cX7_titleOf : ByteArray := prog_9_method_20_code
def yX7_titleOf : MethodName := ⟨RX7, "titleOf", "(I)I"⟩
def RX8 : String := "SnakeCore$Scopes"
def TX8 : u_T := fun k => match k with
  | 0 => ("SnakeCore$Scopes", "program", "LSnakeCore$Program;", true)
  | 1 => ("SnakeCore$Scopes", "parents", "[I", true)
  | 2 => ("SnakeCore$Scopes", "functions", "[I", true)
  | 3 => ("SnakeCore$Scopes", "lastEntries", "[I", true)
  | 4 => ("SnakeCore$Scopes", "entryNames", "[I", true)
  | 5 => ("SnakeCore$Scopes", "entryScopes", "[I", true)
  | 6 => ("SnakeCore$Scopes", "entryKinds", "[I", true)
  | 7 => ("SnakeCore$Scopes", "entrySlots", "[I", true)
  | 8 => ("SnakeCore$Scopes", "entryChain", "[I", true)
  | 9 => ("SnakeCore$Scopes", "fixPlaces", "[I", true)
  | 10 => ("SnakeCore$Scopes", "fixScopes", "[I", true)
  | 11 => ("SnakeCore$Scopes", "current", "I", false)
  | 12 => ("SnakeCore$Scopes", "scopes", "I", false)
  | 13 => ("SnakeCore$Scopes", "entries", "I", false)
  | _ => ("SnakeCore$Scopes", "fixes", "I", false)
def tyX8 : Nat → FieldType := fun k => match k with
  | 0 => .object "SnakeCore$Program"
  | 1 => .array .int
  | 2 => .array .int
  | 3 => .array .int
  | 4 => .array .int
  | 5 => .array .int
  | 6 => .array .int
  | 7 => .array .int
  | 8 => .array .int
  | 9 => .array .int
  | 10 => .array .int
  | 11 => .int
  | 12 => .int
  | 13 => .int
  | _ => .int
abbrev wsX80 : List Cond := u_ws RX8 TX8 15
theorem nmX8 : ∀ a, a < 15 → ∀ b, b < 15 → a ≠ b → (TX8 a).2.1 ≠ (TX8 b).2.1 := by decide +kernel
theorem tyX8_ok : ∀ k, k < 15 → parseFieldDescriptor (TX8 k).2.2.1 = some (tyX8 k) := by decide +kernel
abbrev cX8_init : ByteArray := prog_10_method_1_code
def yX8_init : MethodName := ⟨RX8, "<init>", "(LSnakeCore$Program;)V"⟩
abbrev cX8_begin : ByteArray := prog_10_method_2_code
def yX8_begin : MethodName := ⟨RX8, "begin", "()V"⟩
abbrev cX8_inFunction : ByteArray := prog_10_method_3_code
def yX8_inFunction : MethodName := ⟨RX8, "inFunction", "()Z"⟩
abbrev cX8_enter : ByteArray := prog_10_method_4_code
def yX8_enter : MethodName := ⟨RX8, "enter", "(I)I"⟩
abbrev cX8_leave : ByteArray := prog_10_method_5_code
def yX8_leave : MethodName := ⟨RX8, "leave", "(I)V"⟩
abbrev cX8_entryOf : ByteArray := prog_10_method_6_code
def yX8_entryOf : MethodName := ⟨RX8, "entryOf", "(II)I"⟩
abbrev cX8_add : ByteArray := prog_10_method_7_code
def yX8_add : MethodName := ⟨RX8, "add", "(II)V"⟩
abbrev cX8_bound : ByteArray := prog_10_method_8_code
def yX8_bound : MethodName := ⟨RX8, "bound", "(I)V"⟩
abbrev cX8_parameter : ByteArray := prog_10_method_9_code
def yX8_parameter : MethodName := ⟨RX8, "parameter", "(I)Z"⟩
abbrev cX8_global : ByteArray := prog_10_method_10_code
def yX8_global : MethodName := ⟨RX8, "global", "(I)Z"⟩
abbrev cX8_put : ByteArray := prog_10_method_11_code
def yX8_put : MethodName := ⟨RX8, "put", "(II)I"⟩
abbrev cX8_forget : ByteArray := prog_10_method_12_code
def yX8_forget : MethodName := ⟨RX8, "forget", "(I)V"⟩
abbrev cX8_settle : ByteArray := prog_10_method_13_code
def yX8_settle : MethodName := ⟨RX8, "settle", "()V"⟩
abbrev cX8_settle_ : ByteArray := prog_10_method_14_code
def yX8_settle_ : MethodName := ⟨RX8, "settle", "(II)V"⟩
def RX9 : String := "SnakeCore$Stack"
def TX9 : u_T := fun k => match k with
  | 0 => ("SnakeCore$Stack", "heap", "LSnakeCore$Heap;", true)
  | 1 => ("SnakeCore$Stack", "his", "[J", true)
  | 2 => ("SnakeCore$Stack", "los", "[J", true)
  | _ => ("SnakeCore$Stack", "top", "I", false)
def tyX9 : Nat → FieldType := fun k => match k with
  | 0 => .object "SnakeCore$Heap"
  | 1 => .array .long
  | 2 => .array .long
  | _ => .int
abbrev wsX90 : List Cond := u_ws RX9 TX9 4
theorem nmX9 : ∀ a, a < 4 → ∀ b, b < 4 → a ≠ b → (TX9 a).2.1 ≠ (TX9 b).2.1 := by decide +kernel
theorem tyX9_ok : ∀ k, k < 4 → parseFieldDescriptor (TX9 k).2.2.1 = some (tyX9 k) := by decide +kernel
abbrev cX9_init : ByteArray := prog_11_method_1_code
def yX9_init : MethodName := ⟨RX9, "<init>", "(LSnakeCore$Heap;)V"⟩
abbrev cX9_has : ByteArray := prog_11_method_2_code
def yX9_has : MethodName := ⟨RX9, "has", "(I)Z"⟩
abbrev cX9_hi : ByteArray := prog_11_method_3_code
def yX9_hi : MethodName := ⟨RX9, "hi", "(I)J"⟩
abbrev cX9_lo : ByteArray := prog_11_method_4_code
def yX9_lo : MethodName := ⟨RX9, "lo", "(I)J"⟩
abbrev cX9_object : ByteArray := prog_11_method_5_code
def yX9_object : MethodName := ⟨RX9, "object", "(I)I"⟩
abbrev cX9_object_ : ByteArray := prog_11_method_6_code
def yX9_object_ : MethodName := ⟨RX9, "object", "(II)I"⟩
abbrev cX9_setLo : ByteArray := prog_11_method_7_code
def yX9_setLo : MethodName := ⟨RX9, "setLo", "(IJ)V"⟩
abbrev cX9_push : ByteArray := prog_11_method_8_code
def yX9_push : MethodName := ⟨RX9, "push", "(JJ)V"⟩
abbrev cX9_pop : ByteArray := prog_11_method_9_code
def yX9_pop : MethodName := ⟨RX9, "pop", "(I)V"⟩
abbrev cX9_handOver : ByteArray := prog_11_method_10_code
def yX9_handOver : MethodName := ⟨RX9, "handOver", "(I)V"⟩
abbrev cX9_give : ByteArray := prog_11_method_11_code
def yX9_give : MethodName := ⟨RX9, "give", "(IJJ)I"⟩
abbrev cX9_replace : ByteArray := prog_11_method_12_code
def yX9_replace : MethodName := ⟨RX9, "replace", "(I)V"⟩
abbrev cX9_isTrue : ByteArray := prog_11_method_13_code
def yX9_isTrue : MethodName := ⟨RX9, "isTrue", "(I)Z"⟩
def RX10 : String := "SnakeCore$Statements"
def TX10 : u_T := fun k => match k with
  | 0 => ("SnakeCore$Statements", "lexer", "LSnakeCore$Lexer;", true)
  | 1 => ("SnakeCore$Statements", "program", "LSnakeCore$Program;", true)
  | 2 => ("SnakeCore$Statements", "scopes", "LSnakeCore$Scopes;", true)
  | 3 => ("SnakeCore$Statements", "expressions", "LSnakeCore$Expressions;", true)
  | 4 => ("SnakeCore$Statements", "attributes", "[I", true)
  | 5 => ("SnakeCore$Statements", "attributesTop", "I", false)
  | 6 => ("SnakeCore$Statements", "constantsBefore", "I", false)
  | 7 => ("SnakeCore$Statements", "functionsBefore", "I", false)
  | 8 => ("SnakeCore$Statements", "tries", "I", false)
  | 9 => ("SnakeCore$Statements", "loopBack", "I", false)
  | 10 => ("SnakeCore$Statements", "loopExits", "I", false)
  | _ => ("SnakeCore$Statements", "loopTries", "I", false)
def tyX10 : Nat → FieldType := fun k => match k with
  | 0 => .object "SnakeCore$Lexer"
  | 1 => .object "SnakeCore$Program"
  | 2 => .object "SnakeCore$Scopes"
  | 3 => .object "SnakeCore$Expressions"
  | 4 => .array .int
  | 5 => .int
  | 6 => .int
  | 7 => .int
  | 8 => .int
  | 9 => .int
  | 10 => .int
  | _ => .int
abbrev wsX100 : List Cond := u_ws RX10 TX10 12
theorem nmX10 : ∀ a, a < 12 → ∀ b, b < 12 → a ≠ b → (TX10 a).2.1 ≠ (TX10 b).2.1 := by decide +kernel
theorem tyX10_ok : ∀ k, k < 12 → parseFieldDescriptor (TX10 k).2.2.1 = some (tyX10 k) := by decide +kernel
abbrev cX10_init : ByteArray := prog_12_method_1_code
def yX10_init : MethodName := ⟨RX10, "<init>", "(LSnakeCore$Lexer;LSnakeCore$Program;LSnakeCore$Scopes;LSnakeCore$Expressions;)V"⟩
abbrev cX10_begin : ByteArray := prog_12_method_2_code
def yX10_begin : MethodName := ⟨RX10, "begin", "(I)I"⟩
abbrev cX10_finish : ByteArray := prog_12_method_3_code
def yX10_finish : MethodName := ⟨RX10, "finish", "(I)Z"⟩
abbrev cX10_parse : ByteArray := prog_12_method_4_code
def yX10_parse : MethodName := ⟨RX10, "parse", "(II)V"⟩
abbrev cX10_inside : ByteArray := prog_12_method_5_code
def yX10_inside : MethodName := ⟨RX10, "inside", "(I)Z"⟩
abbrev cX10_block : ByteArray := prog_12_method_6_code
def yX10_block : MethodName := ⟨RX10, "block", "(II)V"⟩
abbrev cX10_opens : ByteArray := prog_12_method_7_code
def yX10_opens : MethodName := ⟨RX10, "opens", "(II)Z"⟩
abbrev cX10_statement : ByteArray := prog_12_method_8_code
def yX10_statement : MethodName := ⟨RX10, "statement", "(I)V"⟩
abbrev cX10_takeName : ByteArray := prog_12_method_9_code
def yX10_takeName : MethodName := ⟨RX10, "takeName", "()I"⟩
abbrev cX10_bindTo : ByteArray := prog_12_method_10_code
def yX10_bindTo : MethodName := ⟨RX10, "bindTo", "(I)V"⟩
abbrev cX10_binding : ByteArray := prog_12_method_11_code
def yX10_binding : MethodName := ⟨RX10, "binding", "()V"⟩
abbrev cX10_changeOf : ByteArray := prog_12_method_12_code
def yX10_changeOf : MethodName := ⟨RX10, "changeOf", "(I)I"⟩
abbrev cX10_nameOfTarget : ByteArray := prog_12_method_13_code
def yX10_nameOfTarget : MethodName := ⟨RX10, "nameOfTarget", "()I"⟩
abbrev cX10_retarget : ByteArray := prog_12_method_14_code
def yX10_retarget : MethodName := ⟨RX10, "retarget", "(III)V"⟩
abbrev cX10_deletion : ByteArray := prog_12_method_15_code
def yX10_deletion : MethodName := ⟨RX10, "deletion", "()V"⟩
abbrev cX10_giving : ByteArray := prog_12_method_16_code
def yX10_giving : MethodName := ⟨RX10, "giving", "()V"⟩
abbrev cX10_raising : ByteArray := prog_12_method_17_code
def yX10_raising : MethodName := ⟨RX10, "raising", "()V"⟩
abbrev cX10_leaving : ByteArray := prog_12_method_18_code
def yX10_leaving : MethodName := ⟨RX10, "leaving", "(Z)V"⟩
abbrev cX10_globals : ByteArray := prog_12_method_19_code
def yX10_globals : MethodName := ⟨RX10, "globals", "()V"⟩
abbrev cX10_branches : ByteArray := prog_12_method_20_code
def yX10_branches : MethodName := ⟨RX10, "branches", "(I)V"⟩
abbrev cX10_comeHere : ByteArray := prog_12_method_21_code
def yX10_comeHere : MethodName := ⟨RX10, "comeHere", "(I)V"⟩
abbrev cX10_whileLoop : ByteArray := prog_12_method_22_code
def yX10_whileLoop : MethodName := ⟨RX10, "whileLoop", "(I)V"⟩
abbrev cX10_forLoop : ByteArray := prog_12_method_23_code
def yX10_forLoop : MethodName := ⟨RX10, "forLoop", "(I)V"⟩
abbrev cX10_loopBlock : ByteArray := prog_12_method_24_code
def yX10_loopBlock : MethodName := ⟨RX10, "loopBlock", "(IIII)V"⟩
abbrev cX10_attempt : ByteArray := prog_12_method_25_code
def yX10_attempt : MethodName := ⟨RX10, "attempt", "(I)V"⟩
abbrev cX10_function : ByteArray := prog_12_method_26_code
def yX10_function : MethodName := ⟨RX10, "function", "(I)I"⟩
abbrev cX10_parameters : ByteArray := prog_12_method_27_code
def yX10_parameters : MethodName := ⟨RX10, "parameters", "(I)V"⟩
abbrev cX10_classOf : ByteArray := prog_12_method_28_code
def yX10_classOf : MethodName := ⟨RX10, "classOf", "(I)V"⟩
abbrev cX10_classBlock : ByteArray := prog_12_method_29_code
def yX10_classBlock : MethodName := ⟨RX10, "classBlock", "(III)V"⟩
abbrev cX10_give : ByteArray := prog_12_method_30_code
def yX10_give : MethodName := ⟨RX10, "give", "(II)V"⟩
def RX11 : String := "SnakeCore"
def TX11 : u_T := fun k => match k with
  | 0 => ("SnakeCore", "tape", "[B", true)
  | 1 => ("SnakeCore", "names", "LSnakeCore$Names;", true)
  | 2 => ("SnakeCore", "heap", "LSnakeCore$Heap;", true)
  | 3 => ("SnakeCore", "lexer", "LSnakeCore$Lexer;", true)
  | 4 => ("SnakeCore", "statements", "LSnakeCore$Statements;", true)
  | 5 => ("SnakeCore", "builtins", "LSnakeCore$Builtins;", true)
  | 6 => ("SnakeCore", "machine", "LSnakeCore$Machine;", true)
  | 7 => ("SnakeCore", "tapeLength", "I", false)
  | _ => ("SnakeCore", "latestLine", "I", false)
def tyX11 : Nat → FieldType := fun k => match k with
  | 0 => .array .byte
  | 1 => .object "SnakeCore$Names"
  | 2 => .object "SnakeCore$Heap"
  | 3 => .object "SnakeCore$Lexer"
  | 4 => .object "SnakeCore$Statements"
  | 5 => .object "SnakeCore$Builtins"
  | 6 => .object "SnakeCore$Machine"
  | 7 => .int
  | _ => .int
abbrev wsX110 : List Cond := u_ws RX11 TX11 9
theorem nmX11 : ∀ a, a < 9 → ∀ b, b < 9 → a ≠ b → (TX11 a).2.1 ≠ (TX11 b).2.1 := by decide +kernel
theorem tyX11_ok : ∀ k, k < 9 → parseFieldDescriptor (TX11 k).2.2.1 = some (tyX11 k) := by decide +kernel
abbrev cX11_init : ByteArray := prog_1_method_1_code
def yX11_init : MethodName := ⟨RX11, "<init>", "()V"⟩
abbrev cX11_feed : ByteArray := prog_1_method_2_code
def yX11_feed : MethodName := ⟨RX11, "feed", "(IIIII)I"⟩
abbrev cX11_end : ByteArray := prog_1_method_3_code
def yX11_end : MethodName := ⟨RX11, "end", "(I)I"⟩
abbrev cX11_run : ByteArray := prog_1_method_4_code
def yX11_run : MethodName := ⟨RX11, "run", "(I)I"⟩
abbrev cX11_line : ByteArray := prog_1_method_5_code
def yX11_line : MethodName := ⟨RX11, "line", "()I"⟩
abbrev cX11_octet : ByteArray := prog_1_method_6_code
def yX11_octet : MethodName := ⟨RX11, "octet", "(I)I"⟩
abbrev cX11_count : ByteArray := prog_1_method_7_code
def yX11_count : MethodName := ⟨RX11, "count", "(I)I"⟩
abbrev cX11_bind : ByteArray := prog_1_method_8_code
def yX11_bind : MethodName := ⟨RX11, "bind", "(J)I"⟩
abbrev cX11_value : ByteArray := prog_1_method_9_code
def yX11_value : MethodName := ⟨RX11, "value", "()J"⟩
abbrev cX11_putFour : ByteArray := prog_1_method_10_code
def yX11_putFour : MethodName := ⟨RX11, "putFour", "(I)V"⟩
abbrev cX11_tapeName : ByteArray := prog_1_method_11_code
def yX11_tapeName : MethodName := ⟨RX11, "tapeName", "()I"⟩
abbrev cX11_kindOf : ByteArray := prog_1_method_12_code
def yX11_kindOf : MethodName := ⟨RX11, "kindOf", "(J)I"⟩
abbrev cX11_lengthOf : ByteArray := prog_1_method_13_code
def yX11_lengthOf : MethodName := ⟨RX11, "lengthOf", "(J)I"⟩
abbrev cX11_byteOf : ByteArray := prog_1_method_14_code
def yX11_byteOf : MethodName := ⟨RX11, "byteOf", "(JJI)I"⟩
abbrev cX11_appendedHi : ByteArray := prog_1_method_15_code
def yX11_appendedHi : MethodName := ⟨RX11, "appendedHi", "(JI)J"⟩
abbrev cX11_appendedLo : ByteArray := prog_1_method_16_code
def yX11_appendedLo : MethodName := ⟨RX11, "appendedLo", "(JJI)J"⟩
abbrev cX11_objectOf : ByteArray := prog_1_method_17_code
def yX11_objectOf : MethodName := ⟨RX11, "objectOf", "(JJ)I"⟩
abbrev cX11_isKey : ByteArray := prog_1_method_18_code
def yX11_isKey : MethodName := ⟨RX11, "isKey", "(J)Z"⟩
abbrev cX11_isLetter : ByteArray := prog_1_method_19_code
def yX11_isLetter : MethodName := ⟨RX11, "isLetter", "(I)Z"⟩
abbrev cX11_isDigit : ByteArray := prog_1_method_20_code
def yX11_isDigit : MethodName := ⟨RX11, "isDigit", "(I)Z"⟩
def RX12 : String := "SnakeCoreModel$Code"
def TX12 : u_T := fun k => match k with
  | 0 => ("SnakeCoreModel$Code", "step", "[I", false)
  | 1 => ("SnakeCoreModel$Code", "many", "I", false)
  | 2 => ("SnakeCoreModel$Code", "whole", "[J", false)
  | 3 => ("SnakeCoreModel$Code", "first", "[J", false)
  | 4 => ("SnakeCoreModel$Code", "second", "[J", false)
  | 5 => ("SnakeCoreModel$Code", "wholes", "I", false)
  | 6 => ("SnakeCoreModel$Code", "strings", "I", false)
  | 7 => ("SnakeCoreModel$Code", "defName", "[I", false)
  | 8 => ("SnakeCoreModel$Code", "defAt", "[I", false)
  | 9 => ("SnakeCoreModel$Code", "defParameters", "[I", false)
  | 10 => ("SnakeCoreModel$Code", "defLocals", "[I", false)
  | _ => ("SnakeCoreModel$Code", "defs", "I", false)
def tyX12 : Nat → FieldType := fun k => match k with
  | 0 => .array .int
  | 1 => .int
  | 2 => .array .long
  | 3 => .array .long
  | 4 => .array .long
  | 5 => .int
  | 6 => .int
  | 7 => .array .int
  | 8 => .array .int
  | 9 => .array .int
  | 10 => .array .int
  | _ => .int
abbrev wsX120 : List Cond := u_ws RX12 TX12 12
theorem nmX12 : ∀ a, a < 12 → ∀ b, b < 12 → a ≠ b → (TX12 a).2.1 ≠ (TX12 b).2.1 := by decide +kernel
theorem tyX12_ok : ∀ k, k < 12 → parseFieldDescriptor (TX12 k).2.2.1 = some (tyX12 k) := by decide +kernel
abbrev cX12_init : ByteArray := prog_15_method_1_code
def yX12_init : MethodName := ⟨RX12, "<init>", "()V"⟩
abbrev cX12_put : ByteArray := prog_15_method_2_code
def yX12_put : MethodName := ⟨RX12, "put", "(I)V"⟩
abbrev cX12_whole : ByteArray := prog_15_method_3_code
def yX12_whole : MethodName := ⟨RX12, "whole", "(J)I"⟩
abbrev cX12_string : ByteArray := prog_15_method_4_code
def yX12_string : MethodName := ⟨RX12, "string", "(JJ)I"⟩
abbrev cX12_def : ByteArray := prog_15_method_5_code
def yX12_def : MethodName := ⟨RX12, "def", "(I)I"⟩
def RX13 : String := "SnakeCoreModel$Thing"
def TX13 : u_T := fun k => match k with
  | 0 => ("SnakeCoreModel$Thing", "kind", "I", false)
  | 1 => ("SnakeCoreModel$Thing", "many", "I", false)
  | 2 => ("SnakeCoreModel$Thing", "valueKind", "[I", false)
  | 3 => ("SnakeCoreModel$Thing", "keyKind", "[I", false)
  | 4 => ("SnakeCoreModel$Thing", "a", "[J", false)
  | 5 => ("SnakeCoreModel$Thing", "b", "[J", false)
  | 6 => ("SnakeCoreModel$Thing", "keyA", "[J", false)
  | 7 => ("SnakeCoreModel$Thing", "keyB", "[J", false)
  | 8 => ("SnakeCoreModel$Thing", "code", "LSnakeCoreModel$Code;", false)
  | 9 => ("SnakeCoreModel$Thing", "def", "I", false)
  | 10 => ("SnakeCoreModel$Thing", "name", "I", false)
  | 11 => ("SnakeCoreModel$Thing", "holds", "I", false)
  | _ => ("SnakeCoreModel$Thing", "more", "I", false)
def tyX13 : Nat → FieldType := fun k => match k with
  | 0 => .int
  | 1 => .int
  | 2 => .array .int
  | 3 => .array .int
  | 4 => .array .long
  | 5 => .array .long
  | 6 => .array .long
  | 7 => .array .long
  | 8 => .object "SnakeCoreModel$Code"
  | 9 => .int
  | 10 => .int
  | 11 => .int
  | _ => .int
abbrev wsX130 : List Cond := u_ws RX13 TX13 13
theorem nmX13 : ∀ a, a < 13 → ∀ b, b < 13 → a ≠ b → (TX13 a).2.1 ≠ (TX13 b).2.1 := by decide +kernel
theorem tyX13_ok : ∀ k, k < 13 → parseFieldDescriptor (TX13 k).2.2.1 = some (tyX13 k) := by decide +kernel
abbrev cX13_init : ByteArray := prog_16_method_1_code
def yX13_init : MethodName := ⟨RX13, "<init>", "()V"⟩
abbrev cX13_room : ByteArray := prog_16_method_2_code
def yX13_room : MethodName := ⟨RX13, "room", "(I)V"⟩
abbrev cX13_keyRoom : ByteArray := prog_16_method_3_code
def yX13_keyRoom : MethodName := ⟨RX13, "keyRoom", "(I)V"⟩
abbrev cX13_add : ByteArray := prog_16_method_4_code
def yX13_add : MethodName := ⟨RX13, "add", "(IJJ)V"⟩
abbrev cX13_set : ByteArray := prog_16_method_5_code
def yX13_set : MethodName := ⟨RX13, "set", "(IIJJ)V"⟩
abbrev cX13_find : ByteArray := prog_16_method_6_code
def yX13_find : MethodName := ⟨RX13, "find", "(IJJ)I"⟩
abbrev cX13_key : ByteArray := prog_16_method_7_code
def yX13_key : MethodName := ⟨RX13, "key", "(IIJJ)V"⟩
abbrev cX13_remove : ByteArray := prog_16_method_8_code
def yX13_remove : MethodName := ⟨RX13, "remove", "(I)V"⟩
def RX14 : String := "SnakeCoreModel"
def TX14 : u_T := fun k => match k with
  | 0 => ("SnakeCoreModel", "letters", "[B", false)
  | 1 => ("SnakeCoreModel", "letterMany", "[I", false)
  | 2 => ("SnakeCoreModel", "names", "I", false)
  | 3 => ("SnakeCoreModel", "globalKind", "[I", false)
  | 4 => ("SnakeCoreModel", "globalA", "[J", false)
  | 5 => ("SnakeCoreModel", "globalB", "[J", false)
  | 6 => ("SnakeCoreModel", "kind", "[I", true)
  | 7 => ("SnakeCoreModel", "value", "[I", true)
  | 8 => ("SnakeCoreModel", "line", "[I", true)
  | 9 => ("SnakeCoreModel", "indent", "[I", true)
  | 10 => ("SnakeCoreModel", "number", "[J", true)
  | 11 => ("SnakeCoreModel", "second", "[J", true)
  | 12 => ("SnakeCoreModel", "tokens", "I", false)
  | 13 => ("SnakeCoreModel", "lastLine", "I", false)
  | 14 => ("SnakeCoreModel", "code", "LSnakeCoreModel$Code;", false)
  | 15 => ("SnakeCoreModel", "at", "I", false)
  | 16 => ("SnakeCoreModel", "fault", "I", false)
  | 17 => ("SnakeCoreModel", "blocks", "I", false)
  | 18 => ("SnakeCoreModel", "open", "[I", true)
  | 19 => ("SnakeCoreModel", "local", "[I", true)
  | 20 => ("SnakeCoreModel", "localFrom", "[I", true)
  | 21 => ("SnakeCoreModel", "parameterMany", "[I", true)
  | 22 => ("SnakeCoreModel", "functions", "I", false)
  | 23 => ("SnakeCoreModel", "locals", "I", false)
  | 24 => ("SnakeCoreModel", "loopOn", "[I", true)
  | 25 => ("SnakeCoreModel", "loopTries", "[I", true)
  | 26 => ("SnakeCoreModel", "loops", "I", false)
  | 27 => ("SnakeCoreModel", "tries", "I", false)
  | 28 => ("SnakeCoreModel", "breakAt", "[I", false)
  | 29 => ("SnakeCoreModel", "breakLoop", "[I", false)
  | 30 => ("SnakeCoreModel", "breaks", "I", false)
  | 31 => ("SnakeCoreModel", "target", "I", false)
  | 32 => ("SnakeCoreModel", "targetAt", "I", false)
  | 33 => ("SnakeCoreModel", "ends", "[I", true)
  | 34 => ("SnakeCoreModel", "endMany", "I", false)
  | 35 => ("SnakeCoreModel", "outside", "[I", true)
  | 36 => ("SnakeCoreModel", "outsideFrom", "[I", true)
  | 37 => ("SnakeCoreModel", "outsides", "I", false)
  | 38 => ("SnakeCoreModel", "attribute", "[I", true)
  | 39 => ("SnakeCoreModel", "attributes", "I", false)
  | 40 => ("SnakeCoreModel", "attributeFrom", "I", false)
  | 41 => ("SnakeCoreModel", "kept", "[I", true)
  | 42 => ("SnakeCoreModel", "thing", "[LSnakeCoreModel$Thing;", true)
  | 43 => ("SnakeCoreModel", "exists", "[Z", true)
  | 44 => ("SnakeCoreModel", "reached", "[Z", true)
  | 45 => ("SnakeCoreModel", "holders", "[I", true)
  | 46 => ("SnakeCoreModel", "waiting", "[I", true)
  | 47 => ("SnakeCoreModel", "rover", "I", false)
  | 48 => ("SnakeCoreModel", "stackKind", "[I", true)
  | 49 => ("SnakeCoreModel", "stackA", "[J", true)
  | 50 => ("SnakeCoreModel", "stackB", "[J", true)
  | 51 => ("SnakeCoreModel", "stack", "I", false)
  | 52 => ("SnakeCoreModel", "callCode", "[LSnakeCoreModel$Code;", true)
  | 53 => ("SnakeCoreModel", "callAt", "[I", true)
  | 54 => ("SnakeCoreModel", "callFrame", "[I", true)
  | 55 => ("SnakeCoreModel", "callBase", "[I", true)
  | 56 => ("SnakeCoreModel", "callLine", "[I", true)
  | 57 => ("SnakeCoreModel", "callTries", "[I", true)
  | 58 => ("SnakeCoreModel", "callMakes", "[Z", true)
  | 59 => ("SnakeCoreModel", "calls", "I", false)
  | 60 => ("SnakeCoreModel", "tryCall", "[I", true)
  | 61 => ("SnakeCoreModel", "tryAt", "[I", true)
  | 62 => ("SnakeCoreModel", "tryStack", "[I", true)
  | 63 => ("SnakeCoreModel", "tryMany", "I", false)
  | 64 => ("SnakeCoreModel", "error", "I", false)
  | 65 => ("SnakeCoreModel", "fuel", "I", false)
  | 66 => ("SnakeCoreModel", "steps", "I", false)
  | 67 => ("SnakeCoreModel", "caught", "I", false)
  | 68 => ("SnakeCoreModel", "errorLine", "I", false)
  | 69 => ("SnakeCoreModel", "bytes", "[B", true)
  | 70 => ("SnakeCoreModel", "INIT", "[B", true)
  | 71 => ("SnakeCoreModel", "out", "[B", true)
  | 72 => ("SnakeCoreModel", "outMany", "I", false)
  | 73 => ("SnakeCoreModel", "tooMuch", "Z", false)
  | 74 => ("SnakeCoreModel", "tape", "[B", true)
  | 75 => ("SnakeCoreModel", "tapeMany", "I", false)
  | _ => ("SnakeCoreModel", "latestLine", "I", false)
def tyX14 : Nat → FieldType := fun k => match k with
  | 0 => .array .byte
  | 1 => .array .int
  | 2 => .int
  | 3 => .array .int
  | 4 => .array .long
  | 5 => .array .long
  | 6 => .array .int
  | 7 => .array .int
  | 8 => .array .int
  | 9 => .array .int
  | 10 => .array .long
  | 11 => .array .long
  | 12 => .int
  | 13 => .int
  | 14 => .object "SnakeCoreModel$Code"
  | 15 => .int
  | 16 => .int
  | 17 => .int
  | 18 => .array .int
  | 19 => .array .int
  | 20 => .array .int
  | 21 => .array .int
  | 22 => .int
  | 23 => .int
  | 24 => .array .int
  | 25 => .array .int
  | 26 => .int
  | 27 => .int
  | 28 => .array .int
  | 29 => .array .int
  | 30 => .int
  | 31 => .int
  | 32 => .int
  | 33 => .array .int
  | 34 => .int
  | 35 => .array .int
  | 36 => .array .int
  | 37 => .int
  | 38 => .array .int
  | 39 => .int
  | 40 => .int
  | 41 => .array .int
  | 42 => .array (.object "SnakeCoreModel$Thing")
  | 43 => .array .boolean
  | 44 => .array .boolean
  | 45 => .array .int
  | 46 => .array .int
  | 47 => .int
  | 48 => .array .int
  | 49 => .array .long
  | 50 => .array .long
  | 51 => .int
  | 52 => .array (.object "SnakeCoreModel$Code")
  | 53 => .array .int
  | 54 => .array .int
  | 55 => .array .int
  | 56 => .array .int
  | 57 => .array .int
  | 58 => .array .boolean
  | 59 => .int
  | 60 => .array .int
  | 61 => .array .int
  | 62 => .array .int
  | 63 => .int
  | 64 => .int
  | 65 => .int
  | 66 => .int
  | 67 => .int
  | 68 => .int
  | 69 => .array .byte
  | 70 => .array .byte
  | 71 => .array .byte
  | 72 => .int
  | 73 => .boolean
  | 74 => .array .byte
  | 75 => .int
  | _ => .int
abbrev wsX140 : List Cond := u_ws RX14 TX14 77
theorem nmX14 : ∀ a, a < 77 → ∀ b, b < 77 → a ≠ b → (TX14 a).2.1 ≠ (TX14 b).2.1 := by decide +kernel
theorem tyX14_ok : ∀ k, k < 77 → parseFieldDescriptor (TX14 k).2.2.1 = some (tyX14 k) := by decide +kernel
abbrev cX14_in : ByteArray := prog_14_method_1_code
def yX14_in : MethodName := ⟨RX14, "in", "(JJJ)Z"⟩
abbrev cX14_nameOf : ByteArray := prog_14_method_2_code
def yX14_nameOf : MethodName := ⟨RX14, "nameOf", "([BII)I"⟩
abbrev cX14_isName : ByteArray := prog_14_method_3_code
def yX14_isName : MethodName := ⟨RX14, "isName", "(ILjava/lang/String;)Z"⟩
abbrev cX14_builtOf : ByteArray := prog_14_method_4_code
def yX14_builtOf : MethodName := ⟨RX14, "builtOf", "(I)I"⟩
abbrev cX14_isWord : ByteArray := prog_14_method_5_code
def yX14_isWord : MethodName := ⟨RX14, "isWord", "([BIILjava/lang/String;)Z"⟩
abbrev cX14_wordOf : ByteArray := prog_14_method_6_code
def yX14_wordOf : MethodName := ⟨RX14, "wordOf", "([BII)I"⟩
abbrev cX14_isLetter : ByteArray := prog_14_method_7_code
def yX14_isLetter : MethodName := ⟨RX14, "isLetter", "(I)Z"⟩
abbrev cX14_isDigit : ByteArray := prog_14_method_8_code
def yX14_isDigit : MethodName := ⟨RX14, "isDigit", "(I)Z"⟩
abbrev cX14_token : ByteArray := prog_14_method_9_code
def yX14_token : MethodName := ⟨RX14, "token", "(IIII)V"⟩
abbrev cX14_lex : ByteArray := prog_14_method_10_code
def yX14_lex : MethodName := ⟨RX14, "lex", "([BI)V"⟩
abbrev cX14_lexLine : ByteArray := prog_14_method_11_code
def yX14_lexLine : MethodName := ⟨RX14, "lexLine", "([BIIII)V"⟩
abbrev cX14_packed : ByteArray := prog_14_method_12_code
def yX14_packed : MethodName := ⟨RX14, "packed", "([BIII)J"⟩
abbrev cX14_many : ByteArray := prog_14_method_13_code
def yX14_many : MethodName := ⟨RX14, "many", "(J)I"⟩
abbrev cX14_byteOf : ByteArray := prog_14_method_14_code
def yX14_byteOf : MethodName := ⟨RX14, "byteOf", "(JJI)I"⟩
abbrev cX14_bad : ByteArray := prog_14_method_15_code
def yX14_bad : MethodName := ⟨RX14, "bad", "()Z"⟩
abbrev cX14_isSign : ByteArray := prog_14_method_16_code
def yX14_isSign : MethodName := ⟨RX14, "isSign", "(I)Z"⟩
abbrev cX14_isWord_ : ByteArray := prog_14_method_17_code
def yX14_isWord_ : MethodName := ⟨RX14, "isWord", "(I)Z"⟩
abbrev cX14_takeSign : ByteArray := prog_14_method_18_code
def yX14_takeSign : MethodName := ⟨RX14, "takeSign", "(I)Z"⟩
abbrev cX14_takeLine : ByteArray := prog_14_method_19_code
def yX14_takeLine : MethodName := ⟨RX14, "takeLine", "()Z"⟩
abbrev cX14_put : ByteArray := prog_14_method_20_code
def yX14_put : MethodName := ⟨RX14, "put", "(I)V"⟩
abbrev cX14_put_ : ByteArray := prog_14_method_21_code
def yX14_put_ : MethodName := ⟨RX14, "put", "(II)V"⟩
abbrev cX14_hole : ByteArray := prog_14_method_22_code
def yX14_hole : MethodName := ⟨RX14, "hole", "(I)I"⟩
abbrev cX14_fill : ByteArray := prog_14_method_23_code
def yX14_fill : MethodName := ⟨RX14, "fill", "(I)V"⟩
abbrev cX14_jumpTo : ByteArray := prog_14_method_24_code
def yX14_jumpTo : MethodName := ⟨RX14, "jumpTo", "(II)V"⟩
abbrev cX14_compile : ByteArray := prog_14_method_25_code
def yX14_compile : MethodName := ⟨RX14, "compile", "([BI)I"⟩
abbrev cX14_block : ByteArray := prog_14_method_26_code
def yX14_block : MethodName := ⟨RX14, "block", "(IZ)Z"⟩
abbrev cX14_statement : ByteArray := prog_14_method_27_code
def yX14_statement : MethodName := ⟨RX14, "statement", "()Z"⟩
abbrev cX14_choice : ByteArray := prog_14_method_28_code
def yX14_choice : MethodName := ⟨RX14, "choice", "(I)Z"⟩
abbrev cX14_beginLoop : ByteArray := prog_14_method_29_code
def yX14_beginLoop : MethodName := ⟨RX14, "beginLoop", "(I)V"⟩
abbrev cX14_endLoop : ByteArray := prog_14_method_30_code
def yX14_endLoop : MethodName := ⟨RX14, "endLoop", "()V"⟩
abbrev cX14_whileLoop : ByteArray := prog_14_method_31_code
def yX14_whileLoop : MethodName := ⟨RX14, "whileLoop", "(II)Z"⟩
abbrev cX14_forLoop : ByteArray := prog_14_method_32_code
def yX14_forLoop : MethodName := ⟨RX14, "forLoop", "(II)Z"⟩
abbrev cX14_attempt : ByteArray := prog_14_method_33_code
def yX14_attempt : MethodName := ⟨RX14, "attempt", "(I)Z"⟩
abbrev cX14_isParameter : ByteArray := prog_14_method_34_code
def yX14_isParameter : MethodName := ⟨RX14, "isParameter", "(I)Z"⟩
abbrev cX14_localOf : ByteArray := prog_14_method_35_code
def yX14_localOf : MethodName := ⟨RX14, "localOf", "(II)I"⟩
abbrev cX14_bindHere : ByteArray := prog_14_method_36_code
def yX14_bindHere : MethodName := ⟨RX14, "bindHere", "(I)V"⟩
abbrev cX14_scan : ByteArray := prog_14_method_37_code
def yX14_scan : MethodName := ⟨RX14, "scan", "(II)V"⟩
abbrev cX14_isOutside : ByteArray := prog_14_method_38_code
def yX14_isOutside : MethodName := ⟨RX14, "isOutside", "(I)Z"⟩
abbrev cX14_forgetHere : ByteArray := prog_14_method_39_code
def yX14_forgetHere : MethodName := ⟨RX14, "forgetHere", "(I)V"⟩
abbrev cX14_define : ByteArray := prog_14_method_40_code
def yX14_define : MethodName := ⟨RX14, "define", "(IZ)Z"⟩
abbrev cX14_defineClass : ByteArray := prog_14_method_41_code
def yX14_defineClass : MethodName := ⟨RX14, "defineClass", "(I)Z"⟩
abbrev cX14_give : ByteArray := prog_14_method_42_code
def yX14_give : MethodName := ⟨RX14, "give", "(I)V"⟩
abbrev cX14_classStatement : ByteArray := prog_14_method_43_code
def yX14_classStatement : MethodName := ⟨RX14, "classStatement", "()Z"⟩
abbrev cX14_name : ByteArray := prog_14_method_44_code
def yX14_name : MethodName := ⟨RX14, "name", "(II)V"⟩
abbrev cX14_expression : ByteArray := prog_14_method_45_code
def yX14_expression : MethodName := ⟨RX14, "expression", "(I)Z"⟩
abbrev cX14_conjunction : ByteArray := prog_14_method_46_code
def yX14_conjunction : MethodName := ⟨RX14, "conjunction", "(I)Z"⟩
abbrev cX14_negation : ByteArray := prog_14_method_47_code
def yX14_negation : MethodName := ⟨RX14, "negation", "(I)Z"⟩
abbrev cX14_comparison : ByteArray := prog_14_method_48_code
def yX14_comparison : MethodName := ⟨RX14, "comparison", "(I)Z"⟩
abbrev cX14_sum : ByteArray := prog_14_method_49_code
def yX14_sum : MethodName := ⟨RX14, "sum", "(I)Z"⟩
abbrev cX14_term : ByteArray := prog_14_method_50_code
def yX14_term : MethodName := ⟨RX14, "term", "(I)Z"⟩
abbrev cX14_factor : ByteArray := prog_14_method_51_code
def yX14_factor : MethodName := ⟨RX14, "factor", "(I)Z"⟩
abbrev cX14_post : ByteArray := prog_14_method_52_code
def yX14_post : MethodName := ⟨RX14, "post", "(I)Z"⟩
abbrev cX14_list : ByteArray := prog_14_method_53_code
def yX14_list : MethodName := ⟨RX14, "list", "(IIIZ)I"⟩
abbrev cX14_atom : ByteArray := prog_14_method_54_code
def yX14_atom : MethodName := ⟨RX14, "atom", "(I)Z"⟩
abbrev cX14_simple : ByteArray := prog_14_method_55_code
def yX14_simple : MethodName := ⟨RX14, "simple", "()Z"⟩
abbrev cX14_global : ByteArray := prog_14_method_56_code
def yX14_global : MethodName := ⟨RX14, "global", "()Z"⟩
abbrev cX14_cut : ByteArray := prog_14_method_57_code
def yX14_cut : MethodName := ⟨RX14, "cut", "()V"⟩
abbrev cX14_delete : ByteArray := prog_14_method_58_code
def yX14_delete : MethodName := ⟨RX14, "delete", "()Z"⟩
abbrev cX14_assignment : ByteArray := prog_14_method_59_code
def yX14_assignment : MethodName := ⟨RX14, "assignment", "()Z"⟩
abbrev cX14_fail : ByteArray := prog_14_method_60_code
def yX14_fail : MethodName := ⟨RX14, "fail", "(I)Z"⟩
abbrev cX14_hold : ByteArray := prog_14_method_61_code
def yX14_hold : MethodName := ⟨RX14, "hold", "(IJI)V"⟩
abbrev cX14_holdAll : ByteArray := prog_14_method_62_code
def yX14_holdAll : MethodName := ⟨RX14, "holdAll", "(LSnakeCoreModel$Thing;I)V"⟩
abbrev cX14_countNames : ByteArray := prog_14_method_63_code
def yX14_countNames : MethodName := ⟨RX14, "countNames", "()V"⟩
abbrev cX14_countWork : ByteArray := prog_14_method_64_code
def yX14_countWork : MethodName := ⟨RX14, "countWork", "(I)V"⟩
abbrev cX14_settle : ByteArray := prog_14_method_65_code
def yX14_settle : MethodName := ⟨RX14, "settle", "()V"⟩
abbrev cX14_drop : ByteArray := prog_14_method_66_code
def yX14_drop : MethodName := ⟨RX14, "drop", "(LSnakeCoreModel$Thing;I)I"⟩
abbrev cX14_dropOne : ByteArray := prog_14_method_67_code
def yX14_dropOne : MethodName := ⟨RX14, "dropOne", "(II)I"⟩
abbrev cX14_fresh : ByteArray := prog_14_method_68_code
def yX14_fresh : MethodName := ⟨RX14, "fresh", "(I)I"⟩
abbrev cX14_free : ByteArray := prog_14_method_69_code
def yX14_free : MethodName := ⟨RX14, "free", "()I"⟩
abbrev cX14_alive : ByteArray := prog_14_method_70_code
def yX14_alive : MethodName := ⟨RX14, "alive", "()I"⟩
abbrev cX14_collect : ByteArray := prog_14_method_71_code
def yX14_collect : MethodName := ⟨RX14, "collect", "()I"⟩
abbrev cX14_reach : ByteArray := prog_14_method_72_code
def yX14_reach : MethodName := ⟨RX14, "reach", "(II)I"⟩
abbrev cX14_push : ByteArray := prog_14_method_73_code
def yX14_push : MethodName := ⟨RX14, "push", "(IJJ)V"⟩
abbrev cX14_pushInt : ByteArray := prog_14_method_74_code
def yX14_pushInt : MethodName := ⟨RX14, "pushInt", "(J)V"⟩
abbrev cX14_copy : ByteArray := prog_14_method_75_code
def yX14_copy : MethodName := ⟨RX14, "copy", "(II)V"⟩
abbrev cX14_thingAt : ByteArray := prog_14_method_76_code
def yX14_thingAt : MethodName := ⟨RX14, "thingAt", "(I)LSnakeCoreModel$Thing;"⟩
abbrev cX14_isThing : ByteArray := prog_14_method_77_code
def yX14_isThing : MethodName := ⟨RX14, "isThing", "(II)Z"⟩
abbrev cX14_isTrue : ByteArray := prog_14_method_78_code
def yX14_isTrue : MethodName := ⟨RX14, "isTrue", "(I)Z"⟩
abbrev cX14_work : ByteArray := prog_14_method_79_code
def yX14_work : MethodName := ⟨RX14, "work", "()I"⟩
abbrev cX14_enter : ByteArray := prog_14_method_80_code
def yX14_enter : MethodName := ⟨RX14, "enter", "(LSnakeCoreModel$Code;IIIZ)V"⟩
abbrev cX14_once : ByteArray := prog_14_method_81_code
def yX14_once : MethodName := ⟨RX14, "once", "()Z"⟩
abbrev cX14_plain : ByteArray := prog_14_method_82_code
def yX14_plain : MethodName := ⟨RX14, "plain", "(II)Z"⟩
abbrev cX14_name_ : ByteArray := prog_14_method_83_code
def yX14_name_ : MethodName := ⟨RX14, "name", "(IIII)Z"⟩
abbrev cX14_notBound : ByteArray := prog_14_method_84_code
def yX14_notBound : MethodName := ⟨RX14, "notBound", "(II)Z"⟩
abbrev cX14_isEqual : ByteArray := prog_14_method_85_code
def yX14_isEqual : MethodName := ⟨RX14, "isEqual", "(IIJJ)Z"⟩
abbrev cX14_orderOf : ByteArray := prog_14_method_86_code
def yX14_orderOf : MethodName := ⟨RX14, "orderOf", "(II)I"⟩
abbrev cX14_binary : ByteArray := prog_14_method_87_code
def yX14_binary : MethodName := ⟨RX14, "binary", "(I)Z"⟩
abbrev cX14_reckon : ByteArray := prog_14_method_88_code
def yX14_reckon : MethodName := ⟨RX14, "reckon", "(III)Z"⟩
abbrev cX14_joinStrings : ByteArray := prog_14_method_89_code
def yX14_joinStrings : MethodName := ⟨RX14, "joinStrings", "(II)Z"⟩
abbrev cX14_joinLists : ByteArray := prog_14_method_90_code
def yX14_joinLists : MethodName := ⟨RX14, "joinLists", "(II)Z"⟩
abbrev cX14_isKey : ByteArray := prog_14_method_91_code
def yX14_isKey : MethodName := ⟨RX14, "isKey", "(I)Z"⟩
abbrev cX14_placeOf : ByteArray := prog_14_method_92_code
def yX14_placeOf : MethodName := ⟨RX14, "placeOf", "(LSnakeCoreModel$Thing;I)I"⟩
abbrev cX14_error : ByteArray := prog_14_method_93_code
def yX14_error : MethodName := ⟨RX14, "error", "(I)I"⟩
abbrev cX14_getItem : ByteArray := prog_14_method_94_code
def yX14_getItem : MethodName := ⟨RX14, "getItem", "()Z"⟩
abbrev cX14_setItem : ByteArray := prog_14_method_95_code
def yX14_setItem : MethodName := ⟨RX14, "setItem", "(III)Z"⟩
abbrev cX14_deleteItem : ByteArray := prog_14_method_96_code
def yX14_deleteItem : MethodName := ⟨RX14, "deleteItem", "()Z"⟩
abbrev cX14_makeList : ByteArray := prog_14_method_97_code
def yX14_makeList : MethodName := ⟨RX14, "makeList", "(I)Z"⟩
abbrev cX14_makeDict : ByteArray := prog_14_method_98_code
def yX14_makeDict : MethodName := ⟨RX14, "makeDict", "(I)Z"⟩
abbrev cX14_classWith : ByteArray := prog_14_method_99_code
def yX14_classWith : MethodName := ⟨RX14, "classWith", "(II)I"⟩
abbrev cX14_getAttribute : ByteArray := prog_14_method_100_code
def yX14_getAttribute : MethodName := ⟨RX14, "getAttribute", "(I)Z"⟩
abbrev cX14_setAttribute : ByteArray := prog_14_method_101_code
def yX14_setAttribute : MethodName := ⟨RX14, "setAttribute", "(III)Z"⟩
abbrev cX14_deleteAttribute : ByteArray := prog_14_method_102_code
def yX14_deleteAttribute : MethodName := ⟨RX14, "deleteAttribute", "(I)Z"⟩
abbrev cX14_makeClass : ByteArray := prog_14_method_103_code
def yX14_makeClass : MethodName := ⟨RX14, "makeClass", "([II)Z"⟩
abbrev cX14_call : ByteArray := prog_14_method_104_code
def yX14_call : MethodName := ⟨RX14, "call", "(I)Z"⟩
abbrev cX14_begin : ByteArray := prog_14_method_105_code
def yX14_begin : MethodName := ⟨RX14, "begin", "(IIIIZ)Z"⟩
abbrev cX14_make : ByteArray := prog_14_method_106_code
def yX14_make : MethodName := ⟨RX14, "make", "(II)Z"⟩
abbrev cX14_leave : ByteArray := prog_14_method_107_code
def yX14_leave : MethodName := ⟨RX14, "leave", "()Z"⟩
abbrev cX14_built : ByteArray := prog_14_method_108_code
def yX14_built : MethodName := ⟨RX14, "built", "(III)Z"⟩
abbrev cX14_range : ByteArray := prog_14_method_109_code
def yX14_range : MethodName := ⟨RX14, "range", "(II)Z"⟩
abbrev cX14_text : ByteArray := prog_14_method_110_code
def yX14_text : MethodName := ⟨RX14, "text", "(I)Z"⟩
abbrev cX14_digits : ByteArray := prog_14_method_111_code
def yX14_digits : MethodName := ⟨RX14, "digits", "(J)I"⟩
abbrev cX14_one : ByteArray := prog_14_method_112_code
def yX14_one : MethodName := ⟨RX14, "one", "(I)V"⟩
abbrev cX14_say : ByteArray := prog_14_method_113_code
def yX14_say : MethodName := ⟨RX14, "say", "(Ljava/lang/String;)V"⟩
abbrev cX14_say_ : ByteArray := prog_14_method_114_code
def yX14_say_ : MethodName := ⟨RX14, "say", "(IJJZ)V"⟩
abbrev cX14_sayThing : ByteArray := prog_14_method_115_code
def yX14_sayThing : MethodName := ⟨RX14, "sayThing", "(LSnakeCoreModel$Thing;Z)V"⟩
abbrev cX14_print : ByteArray := prog_14_method_116_code
def yX14_print : MethodName := ⟨RX14, "print", "(II)Z"⟩
abbrev cX14_init : ByteArray := prog_14_method_117_code
def yX14_init : MethodName := ⟨RX14, "<init>", "()V"⟩
abbrev cX14_feed : ByteArray := prog_14_method_118_code
def yX14_feed : MethodName := ⟨RX14, "feed", "(IIIII)I"⟩
abbrev cX14_end : ByteArray := prog_14_method_119_code
def yX14_end : MethodName := ⟨RX14, "end", "(I)I"⟩
abbrev cX14_run : ByteArray := prog_14_method_120_code
def yX14_run : MethodName := ⟨RX14, "run", "(I)I"⟩
abbrev cX14_line : ByteArray := prog_14_method_121_code
def yX14_line : MethodName := ⟨RX14, "line", "()I"⟩
abbrev cX14_octet : ByteArray := prog_14_method_122_code
def yX14_octet : MethodName := ⟨RX14, "octet", "(I)I"⟩
abbrev cX14_count : ByteArray := prog_14_method_123_code
def yX14_count : MethodName := ⟨RX14, "count", "(I)I"⟩
abbrev cX14_tapeName : ByteArray := prog_14_method_124_code
def yX14_tapeName : MethodName := ⟨RX14, "tapeName", "()I"⟩
abbrev cX14_bind : ByteArray := prog_14_method_125_code
def yX14_bind : MethodName := ⟨RX14, "bind", "(J)I"⟩
abbrev cX14_value : ByteArray := prog_14_method_126_code
def yX14_value : MethodName := ⟨RX14, "value", "()J"⟩
def RJ13 : String := "java/lang/Long"
abbrev cJ13_compare_74951 : ByteArray := prog_18_method_42_code
def yJ13_compare_74951 : MethodName := ⟨RJ13, "compare", "(JJ)I"⟩
abbrev cJ13_compareUnsigned_74951 : ByteArray := prog_18_method_43_code
def yJ13_compareUnsigned_74951 : MethodName := ⟨RJ13, "compareUnsigned", "(JJ)I"⟩
def RJ9 : String := "java/lang/Math"
abbrev cJ9_multiplyHigh_f86c9 : ByteArray := prog_19_method_45_code
def yJ9_multiplyHigh_f86c9 : MethodName := ⟨RJ9, "multiplyHigh", "(JJ)J"⟩
abbrev cJ9_floorDiv_f86c9 : ByteArray := prog_19_method_49_code
def yJ9_floorDiv_f86c9 : MethodName := ⟨RJ9, "floorDiv", "(JJ)J"⟩
abbrev cJ9_floorMod_f86c9 : ByteArray := prog_19_method_52_code
def yJ9_floorMod_f86c9 : MethodName := ⟨RJ9, "floorMod", "(JJ)J"⟩
abbrev cJ9_abs_0f7a4 : ByteArray := prog_19_method_59_code
def yJ9_abs_0f7a4 : MethodName := ⟨RJ9, "abs", "(I)I"⟩
abbrev cJ9_max_7cf53 : ByteArray := prog_19_method_65_code
def yJ9_max_7cf53 : MethodName := ⟨RJ9, "max", "(II)I"⟩
abbrev cJ9_min_7cf53 : ByteArray := prog_19_method_69_code
def yJ9_min_7cf53 : MethodName := ⟨RJ9, "min", "(II)I"⟩
def RJ0 : String := "java/lang/String"
abbrev cJ0_length_8abf5 : ByteArray := prog_21_method_54_code
def yJ0_length_8abf5 : MethodName := ⟨RJ0, "length", "()I"⟩
abbrev cJ0_charAt_5068e : ByteArray := prog_21_method_56_code
def yJ0_charAt_5068e : MethodName := ⟨RJ0, "charAt", "(I)C"⟩
abbrev cJ0_coder_7d493 : ByteArray := prog_21_method_152_code
def yJ0_coder_7d493 : MethodName := ⟨RJ0, "coder", "()B"⟩
abbrev cJ0_isLatin1_aae02 : ByteArray := prog_21_method_154_code
def yJ0_isLatin1_aae02 : MethodName := ⟨RJ0, "isLatin1", "()Z"⟩
abbrev cJ0_checkIndex_df160 : ByteArray := prog_21_method_155_code
def yJ0_checkIndex_df160 : MethodName := ⟨RJ0, "checkIndex", "(II)V"⟩
def RJ1 : String := "java/lang/StringLatin1"
abbrev cJ1_charAt_3b067 : ByteArray := prog_22_method_2_code
def yJ1_charAt_3b067 : MethodName := ⟨RJ1, "charAt", "([BI)C"⟩
def RJ2 : String := "java/lang/StringUTF16"
abbrev cJ2_getChar_3b067 : ByteArray := prog_23_method_5_code
def yJ2_getChar_3b067 : MethodName := ⟨RJ2, "getChar", "([BI)C"⟩
abbrev cJ2_length_9d52b : ByteArray := prog_23_method_6_code
def yJ2_length_9d52b : MethodName := ⟨RJ2, "length", "([B)I"⟩
abbrev cJ2_charAt_3b067 : ByteArray := prog_23_method_83_code
def yJ2_charAt_3b067 : MethodName := ⟨RJ2, "charAt", "([BI)C"⟩
abbrev cJ2_checkIndex_2214a : ByteArray := prog_23_method_91_code
def yJ2_checkIndex_2214a : MethodName := ⟨RJ2, "checkIndex", "(I[B)V"⟩
def RJ10 : String := "java/lang/System"
def RJ7 : String := "java/util/Arrays"
abbrev cJ7_rangeCheck_23922 : ByteArray := prog_25_method_30_code
def yJ7_rangeCheck_23922 : MethodName := ⟨RJ7, "rangeCheck", "(III)V"⟩
abbrev cJ7_fill_bad5a : ByteArray := prog_25_method_102_code
def yJ7_fill_bad5a : MethodName := ⟨RJ7, "fill", "([JIIJ)V"⟩
abbrev cJ7_fill_53178 : ByteArray := prog_25_method_103_code
def yJ7_fill_53178 : MethodName := ⟨RJ7, "fill", "([II)V"⟩
abbrev cJ7_fill_49daa : ByteArray := prog_25_method_111_code
def yJ7_fill_49daa : MethodName := ⟨RJ7, "fill", "([ZZ)V"⟩
abbrev cJ7_copyOf_9075b : ByteArray := prog_25_method_121_code
def yJ7_copyOf_9075b : MethodName := ⟨RJ7, "copyOf", "([BI)[B"⟩
abbrev cJ7_copyOf_59c91 : ByteArray := prog_25_method_123_code
def yJ7_copyOf_59c91 : MethodName := ⟨RJ7, "copyOf", "([II)[I"⟩
abbrev cJ7_copyOf_c38d5 : ByteArray := prog_25_method_124_code
def yJ7_copyOf_c38d5 : MethodName := ⟨RJ7, "copyOf", "([JI)[J"⟩
def RJ3 : String := "jdk/internal/util/Preconditions"
abbrev cJ3_checkIndex_8e157 : ByteArray := prog_26_method_11_code
def yJ3_checkIndex_8e157 : MethodName := ⟨RJ3, "checkIndex", "(IILjava/util/function/BiFunction;)I"⟩
def RL : String := "SnakeCoreLaw"
def mt_cl : List vw_C := [(RX0, TX0, 8), (RX1, TX1, 5), (RX2, TX2, 17), (RX3, TX3, 14), (RX4, TX4, 20), (RX5, TX5, 9), (RX6, TX6, 3), (RX7, TX7, 11), (RX8, TX8, 15), (RX9, TX9, 4), (RX10, TX10, 12), (RX11, TX11, 9), (RX12, TX12, 12), (RX13, TX13, 13), (RX14, TX14, 77)]
def mt_ty : List (Nat → FieldType) := [tyX0, tyX1, tyX2, tyX3, tyX4, tyX5, tyX6, tyX7, tyX8, tyX9, tyX10, tyX11, tyX12, tyX13, tyX14]
def mt_el : List FieldType := [.int, .long, .byte, .boolean, .array .long, .object RX13, .object RX12]
def mt_ow : List String := [RX0, RX1, RX2, RX3, RX4, RX5, RX6, RX7, RX8, RX9, RX10, RX11, RX12, RX13, RX14, RL, RJ0, RJ1, RJ3, RJ2, RJ7, RJ9, RJ13]
def mt_ho : List String := [RX11, RX14]
abbrev mt_M : Type := MethodName × ByteArray × Nat × Option FieldType × Nat × Nat × Bool × Nat × Nat × Nat × Nat
def mt_m_0 : List mt_M := [(yX11_init, prog_1_method_1_code, 4, none, 11, 0, false, 361, 360, 0, 333),
  (yX2_init, prog_4_method_1_code, 1, none, 2, 0, false, 369, 368, 0, 334),
  (yX5_init, prog_7_method_1_code, 2, none, 5, 1, false, 435, 434, 0, 335),
  (yX5_learn, prog_7_method_2_code, 8, none, 5, 1, false, 441, 440, 0, 335),
  (yJ0_length_8abf5, prog_21_method_54_code, 1, some (Jvm.ClassFile.FieldType.int), 16, 0, false, 446, 444, 445, 336),
  (yJ0_coder_7d493, prog_21_method_152_code, 1, some (Jvm.ClassFile.FieldType.byte), 16, 0, false, 450, 448, 449, 336),
  (yJ0_charAt_5068e, prog_21_method_56_code, 2, some (Jvm.ClassFile.FieldType.char), 16, 1, false, 456, 454, 455, 336),
  (yJ0_isLatin1_aae02, prog_21_method_154_code, 1, some (Jvm.ClassFile.FieldType.boolean), 16, 0, false, 460, 458, 459, 336),
  (yJ1_charAt_3b067, prog_22_method_2_code, 2, some (Jvm.ClassFile.FieldType.char), 17, 2, true, 463, 462, 0, 337),
  (yJ0_checkIndex_df160, prog_21_method_155_code, 2, none, 16, 2, true, 466, 465, 0, 336),
  (yJ3_checkIndex_8e157, prog_26_method_11_code, 3, some (Jvm.ClassFile.FieldType.int), 18, 3, true, 471, 470, 0, 338),
  (yJ2_charAt_3b067, prog_23_method_83_code, 2, some (Jvm.ClassFile.FieldType.char), 19, 2, true, 474, 473, 0, 339),
  (yJ2_checkIndex_2214a, prog_23_method_91_code, 2, none, 19, 2, true, 477, 476, 0, 339),
  (yJ2_length_9d52b, prog_23_method_6_code, 1, some (Jvm.ClassFile.FieldType.int), 19, 1, true, 480, 479, 0, 339),
  (yJ2_getChar_3b067, prog_23_method_5_code, 2, some (Jvm.ClassFile.FieldType.char), 19, 2, true, 484, 483, 0, 339),
  (yX5_numberOf, prog_7_method_3_code, 10, some (Jvm.ClassFile.FieldType.int), 5, 2, false, 494, 493, 1, 335),
  (yX11_appendedLo, prog_1_method_16_code, 6, some (Jvm.ClassFile.FieldType.long), 11, 3, true, 500, 499, 0, 333),
  (yX11_appendedHi, prog_1_method_15_code, 6, some (Jvm.ClassFile.FieldType.long), 11, 2, true, 503, 502, 0, 333),
  (yX7_init, prog_9_method_1_code, 1, none, 7, 0, false, 541, 540, 0, 340),
  (yX3_init, prog_5_method_1_code, 3, none, 3, 2, false, 588, 587, 0, 341),
  (yX8_init, prog_10_method_1_code, 2, none, 8, 1, false, 648, 647, 0, 342),
  (yX1_init, prog_3_method_1_code, 4, none, 1, 3, false, 702, 701, 0, 344),
  (yX10_init, prog_12_method_1_code, 5, none, 10, 4, false, 724, 723, 0, 343),
  (yX9_init, prog_11_method_1_code, 2, none, 9, 1, false, 767, 766, 0, 345),
  (yX0_init, prog_2_method_1_code, 5, none, 0, 4, false, 787, 786, 0, 346),
  (yX4_init, prog_6_method_1_code, 6, none, 4, 5, false, 818, 817, 0, 347),
  (yX6_init, prog_8_method_1_code, 4, none, 6, 3, false, 824, 823, 0, 348),
  (yX11_feed, prog_1_method_2_code, 6, some (Jvm.ClassFile.FieldType.int), 11, 5, false, 928, 926, 927, 333),
  (yX11_putFour, prog_1_method_10_code, 3, none, 11, 1, false, 932, 931, 2, 333),
  (yX11_end, prog_1_method_3_code, 2, some (Jvm.ClassFile.FieldType.int), 11, 1, false, 936, 934, 935, 333),
  (yX11_run, prog_1_method_4_code, 4, some (Jvm.ClassFile.FieldType.int), 11, 1, false, 940, 938, 939, 333),
  (yX0_clearOut, prog_2_method_2_code, 1, none, 0, 0, false, 944, 943, 3, 346),
  (yX4_forgetSteps, prog_6_method_3_code, 1, none, 4, 0, false, 948, 947, 4, 347),
  (yX10_begin, prog_12_method_2_code, 2, some (Jvm.ClassFile.FieldType.int), 10, 1, false, 952, 951, 5, 343),
  (yX8_begin, prog_10_method_2_code, 1, none, 8, 0, false, 956, 955, 6, 342),
  (yX3_begin, prog_5_method_3_code, 2, none, 3, 1, false, 960, 959, 7, 341),
  (yX3_findLine, prog_5_method_7_code, 3, none, 3, 0, false, 964, 963, 8, 341),
  (yX3_skipBlanks, prog_5_method_8_code, 1, none, 3, 0, false, 968, 967, 9, 341),
  (yX3_byteAt, prog_5_method_2_code, 2, some (Jvm.ClassFile.FieldType.int), 3, 1, false, 972, 971, 10, 341),
  (yX3_skipLine, prog_5_method_6_code, 1, none, 3, 0, false, 976, 975, 11, 341)]
def mt_m_1 : List mt_M := [(yX3_read, prog_5_method_11_code, 2, none, 3, 0, false, 980, 979, 12, 341),
  (yX11_isLetter, prog_1_method_19_code, 1, some (Jvm.ClassFile.FieldType.boolean), 11, 1, true, 983, 982, 0, 333),
  (yX3_readName, prog_5_method_12_code, 6, none, 3, 0, false, 987, 986, 13, 341),
  (yX11_isDigit, prog_1_method_20_code, 1, some (Jvm.ClassFile.FieldType.boolean), 11, 1, true, 991, 990, 0, 333),
  (yX3_fail, prog_5_method_4_code, 1, none, 3, 0, false, 995, 994, 14, 341),
  (yX3_readNumber, prog_5_method_13_code, 2, none, 3, 0, false, 1002, 1001, 15, 341),
  (yX3_readText, prog_5_method_14_code, 2, none, 3, 0, false, 1008, 1007, 16, 341),
  (yX11_lengthOf, prog_1_method_13_code, 2, some (Jvm.ClassFile.FieldType.int), 11, 1, true, 1011, 1010, 0, 333),
  (yX3_readSign, prog_5_method_15_code, 3, none, 3, 1, false, 1015, 1014, 17, 341),
  (yX3_signWithEqual, prog_5_method_16_code, 1, some (Jvm.ClassFile.FieldType.int), 3, 1, true, 1018, 1017, 0, 341),
  (yX3_signAlone, prog_5_method_17_code, 1, some (Jvm.ClassFile.FieldType.int), 3, 1, true, 1021, 1020, 0, 341),
  (yX10_parse, prog_12_method_4_code, 4, none, 10, 2, false, 1025, 1024, 18, 343),
  (yX10_inside, prog_12_method_5_code, 2, some (Jvm.ClassFile.FieldType.boolean), 10, 1, false, 1029, 1028, 19, 343),
  (yX10_statement, prog_12_method_8_code, 2, none, 10, 1, false, 1033, 1032, 20, 343),
  (yX7_put_, prog_9_method_4_code, 3, some (Jvm.ClassFile.FieldType.int), 7, 2, false, 1037, 1036, 21, 340),
  (yX7_hasRoom, prog_9_method_6_code, 3, some (Jvm.ClassFile.FieldType.boolean), 7, 1, false, 1041, 1040, 22, 340),
  (yX10_branches, prog_12_method_20_code, 7, none, 10, 1, false, 1045, 1044, 23, 343),
  (yX1_parse, prog_3_method_2_code, 4, none, 1, 1, false, 1050, 1049, 24, 344),
  (yX1_both, prog_3_method_3_code, 4, none, 1, 1, false, 1054, 1053, 25, 344),
  (yX1_negation, prog_3_method_4_code, 2, none, 1, 1, false, 1058, 1057, 26, 344),
  (yX1_comparison, prog_3_method_6_code, 3, none, 1, 1, false, 1062, 1061, 27, 344),
  (yX1_sum, prog_3_method_8_code, 4, none, 1, 1, false, 1066, 1065, 28, 344),
  (yX1_term, prog_3_method_9_code, 4, none, 1, 1, false, 1070, 1069, 29, 344),
  (yX1_factor, prog_3_method_11_code, 2, none, 1, 1, false, 1074, 1073, 30, 344),
  (yX1_post, prog_3_method_12_code, 4, none, 1, 1, false, 1078, 1077, 31, 344),
  (yX1_atom, prog_3_method_18_code, 2, none, 1, 1, false, 1082, 1081, 32, 344),
  (yX1_name, prog_3_method_20_code, 2, none, 1, 0, false, 1086, 1085, 33, 344),
  (yX8_put, prog_10_method_11_code, 4, some (Jvm.ClassFile.FieldType.int), 8, 2, false, 1091, 1090, 34, 342),
  (yX7_put__, prog_9_method_5_code, 4, some (Jvm.ClassFile.FieldType.int), 7, 3, false, 1095, 1094, 35, 340),
  (yX8_inFunction, prog_10_method_3_code, 1, some (Jvm.ClassFile.FieldType.boolean), 8, 0, false, 1099, 1098, 36, 342),
  (yX5_builtInOf, prog_7_method_4_code, 1, some (Jvm.ClassFile.FieldType.int), 5, 1, true, 1102, 1101, 0, 335),
  (yX7_put, prog_9_method_3_code, 2, some (Jvm.ClassFile.FieldType.int), 7, 1, false, 1106, 1105, 37, 340),
  (yX1_constant, prog_3_method_19_code, 5, none, 1, 2, false, 1111, 1110, 38, 344),
  (yX7_putConstant, prog_9_method_8_code, 5, none, 7, 2, false, 1115, 1114, 39, 340),
  (yX1_goesDeeper, prog_3_method_5_code, 2, some (Jvm.ClassFile.FieldType.boolean), 1, 1, false, 1121, 1120, 40, 344),
  (yX3_pass, prog_5_method_10_code, 2, none, 3, 1, false, 1127, 1126, 41, 341),
  (yX1_list, prog_3_method_16_code, 6, some (Jvm.ClassFile.FieldType.int), 1, 3, false, 1131, 1130, 42, 344),
  (yX1_made, prog_3_method_13_code, 3, none, 1, 2, false, 1135, 1134, 43, 344),
  (yX1_pairs, prog_3_method_17_code, 4, some (Jvm.ClassFile.FieldType.int), 1, 1, false, 1140, 1139, 44, 344),
  (yX1_index, prog_3_method_14_code, 2, none, 1, 1, false, 1144, 1143, 45, 344)]
def mt_m_2 : List mt_M := [(yX1_attribute, prog_3_method_15_code, 1, none, 1, 0, false, 1148, 1147, 46, 344),
  (yX1_termOf, prog_3_method_10_code, 1, some (Jvm.ClassFile.FieldType.int), 1, 1, true, 1151, 1150, 0, 344),
  (yX1_comparisonOf, prog_3_method_7_code, 1, some (Jvm.ClassFile.FieldType.int), 1, 1, true, 1154, 1153, 0, 344),
  (yX7_patch, prog_9_method_7_code, 3, none, 7, 2, false, 1158, 1157, 47, 340),
  (yX10_block, prog_12_method_6_code, 3, none, 10, 2, false, 1162, 1161, 48, 343),
  (yX10_opens, prog_12_method_7_code, 3, some (Jvm.ClassFile.FieldType.boolean), 10, 2, false, 1166, 1165, 49, 343),
  (yX3_nextLine, prog_5_method_5_code, 1, none, 3, 0, false, 1171, 1170, 50, 341),
  (yX10_comeHere, prog_12_method_21_code, 5, none, 10, 1, false, 1178, 1177, 51, 343),
  (yX7_at, prog_9_method_2_code, 2, some (Jvm.ClassFile.FieldType.int), 7, 1, false, 1182, 1181, 52, 340),
  (yX10_whileLoop, prog_12_method_22_code, 6, none, 10, 1, false, 1186, 1185, 53, 343),
  (yX10_loopBlock, prog_12_method_24_code, 8, none, 10, 4, false, 1190, 1189, 54, 343),
  (yX10_forLoop, prog_12_method_23_code, 8, none, 10, 1, false, 1194, 1193, 55, 343),
  (yX10_takeName, prog_12_method_9_code, 2, some (Jvm.ClassFile.FieldType.int), 10, 0, false, 1198, 1197, 56, 343),
  (yX10_bindTo, prog_12_method_10_code, 2, none, 10, 1, false, 1203, 1202, 57, 343),
  (yX8_bound, prog_10_method_8_code, 2, none, 8, 1, false, 1207, 1206, 58, 342),
  (yX8_entryOf, prog_10_method_6_code, 5, some (Jvm.ClassFile.FieldType.int), 8, 2, false, 1211, 1210, 59, 342),
  (yX8_add, prog_10_method_7_code, 3, none, 8, 2, false, 1215, 1214, 60, 342),
  (yX10_function, prog_12_method_26_code, 9, some (Jvm.ClassFile.FieldType.int), 10, 1, false, 1220, 1219, 61, 343),
  (yX7_addFunction, prog_9_method_14_code, 2, some (Jvm.ClassFile.FieldType.int), 7, 1, false, 1224, 1223, 62, 340),
  (yX8_enter, prog_10_method_4_code, 3, some (Jvm.ClassFile.FieldType.int), 8, 1, false, 1228, 1227, 63, 342),
  (yX10_parameters, prog_12_method_27_code, 5, none, 10, 1, false, 1232, 1231, 64, 343),
  (yX8_parameter, prog_10_method_9_code, 2, some (Jvm.ClassFile.FieldType.boolean), 8, 1, false, 1236, 1235, 65, 342),
  (yX7_addParameter, prog_9_method_15_code, 2, none, 7, 1, false, 1240, 1239, 66, 340),
  (yX7_isFunction, prog_9_method_13_code, 2, some (Jvm.ClassFile.FieldType.boolean), 7, 1, false, 1244, 1243, 67, 340),
  (yX8_leave, prog_10_method_5_code, 2, none, 8, 1, false, 1250, 1249, 68, 342),
  (yX10_classOf, prog_12_method_28_code, 9, none, 10, 1, false, 1254, 1253, 69, 343),
  (yX10_classBlock, prog_12_method_29_code, 6, none, 10, 3, false, 1258, 1257, 70, 343),
  (yX10_give, prog_12_method_30_code, 4, none, 10, 2, false, 1262, 1261, 71, 343),
  (yX10_attempt, prog_12_method_25_code, 5, none, 10, 1, false, 1267, 1266, 72, 343),
  (yX10_deletion, prog_12_method_15_code, 1, none, 10, 0, false, 1271, 1270, 73, 343),
  (yX10_retarget, prog_12_method_14_code, 5, none, 10, 3, false, 1275, 1274, 74, 343),
  (yX10_nameOfTarget, prog_12_method_13_code, 1, some (Jvm.ClassFile.FieldType.int), 10, 0, false, 1279, 1278, 75, 343),
  (yX10_giving, prog_12_method_16_code, 1, none, 10, 0, false, 1283, 1282, 76, 343),
  (yX10_raising, prog_12_method_17_code, 1, none, 10, 0, false, 1288, 1287, 77, 343),
  (yX10_leaving, prog_12_method_18_code, 2, none, 10, 1, false, 1292, 1291, 78, 343),
  (yX10_globals, prog_12_method_19_code, 4, none, 10, 0, false, 1296, 1295, 79, 343),
  (yX8_global, prog_10_method_10_code, 3, some (Jvm.ClassFile.FieldType.boolean), 8, 1, false, 1300, 1299, 80, 342),
  (yX10_binding, prog_12_method_11_code, 7, none, 10, 0, false, 1304, 1303, 81, 343),
  (yX7_cut, prog_9_method_12_code, 4, none, 7, 3, false, 1308, 1307, 82, 340),
  (yX8_forget, prog_10_method_12_code, 2, none, 8, 1, false, 1312, 1311, 83, 342)]
def mt_m_3 : List mt_M := [(yX3_goTo, prog_5_method_9_code, 2, none, 3, 1, false, 1316, 1315, 84, 341),
  (yX10_changeOf, prog_12_method_12_code, 1, some (Jvm.ClassFile.FieldType.int), 10, 1, true, 1319, 1318, 0, 343),
  (yX10_finish, prog_12_method_3_code, 3, some (Jvm.ClassFile.FieldType.boolean), 10, 1, false, 1323, 1322, 85, 343),
  (yX8_settle, prog_10_method_13_code, 3, none, 8, 0, false, 1327, 1326, 86, 342),
  (yX7_addLocal, prog_9_method_16_code, 2, some (Jvm.ClassFile.FieldType.int), 7, 1, false, 1331, 1330, 87, 340),
  (yX8_settle_, prog_10_method_14_code, 7, none, 8, 2, false, 1335, 1334, 88, 342),
  (yX4_perform, prog_6_method_5_code, 7, some (Jvm.ClassFile.FieldType.int), 4, 2, false, 1341, 1340, 89, 347),
  (yX4_operand, prog_6_method_6_code, 2, some (Jvm.ClassFile.FieldType.int), 4, 0, false, 1346, 1345, 90, 347),
  (yX4_flow, prog_6_method_12_code, 2, some (Jvm.ClassFile.FieldType.int), 4, 1, false, 1351, 1350, 91, 347),
  (yX4_step, prog_6_method_13_code, 2, some (Jvm.ClassFile.FieldType.int), 4, 1, false, 1355, 1354, 92, 347),
  (yX4_jumpIf, prog_6_method_14_code, 5, some (Jvm.ClassFile.FieldType.int), 4, 2, false, 1359, 1358, 93, 347),
  (yX9_isTrue, prog_11_method_13_code, 6, some (Jvm.ClassFile.FieldType.boolean), 9, 1, false, 1363, 1362, 94, 345),
  (yX9_hi, prog_11_method_3_code, 2, some (Jvm.ClassFile.FieldType.long), 9, 1, false, 1367, 1366, 95, 345),
  (yX9_has, prog_11_method_2_code, 2, some (Jvm.ClassFile.FieldType.boolean), 9, 1, false, 1371, 1370, 96, 345),
  (yX11_kindOf, prog_1_method_12_code, 2, some (Jvm.ClassFile.FieldType.int), 11, 1, true, 1374, 1373, 0, 333),
  (yX9_lo, prog_11_method_4_code, 2, some (Jvm.ClassFile.FieldType.long), 9, 1, false, 1378, 1377, 97, 345),
  (yX9_object, prog_11_method_5_code, 2, some (Jvm.ClassFile.FieldType.int), 9, 1, false, 1383, 1382, 98, 345),
  (yX11_objectOf, prog_1_method_17_code, 4, some (Jvm.ClassFile.FieldType.int), 11, 2, true, 1386, 1385, 0, 333),
  (yX2_kindAt, prog_4_method_7_code, 2, some (Jvm.ClassFile.FieldType.int), 2, 1, false, 1391, 1390, 99, 334),
  (yX2_isId, prog_4_method_2_code, 1, some (Jvm.ClassFile.FieldType.boolean), 2, 1, true, 1394, 1393, 0, 334),
  (yX2_sizeAt, prog_4_method_8_code, 2, some (Jvm.ClassFile.FieldType.int), 2, 1, false, 1398, 1397, 100, 334),
  (yX9_pop, prog_11_method_9_code, 3, none, 9, 1, false, 1402, 1401, 101, 345),
  (yX2_release, prog_4_method_14_code, 5, none, 2, 2, false, 1406, 1405, 102, 334),
  (yX2_visit, prog_4_method_18_code, 7, none, 2, 2, false, 1410, 1409, 103, 334),
  (yX2_touch, prog_4_method_19_code, 4, none, 2, 2, false, 1414, 1413, 104, 334),
  (yX2_widthOf, prog_4_method_20_code, 1, some (Jvm.ClassFile.FieldType.int), 2, 1, true, 1417, 1416, 0, 334),
  (yX2_remove, prog_4_method_6_code, 2, none, 2, 1, false, 1422, 1421, 105, 334),
  (yX4_giveBack, prog_6_method_31_code, 7, some (Jvm.ClassFile.FieldType.int), 4, 0, false, 1426, 1425, 106, 347),
  (yX9_give, prog_11_method_11_code, 7, some (Jvm.ClassFile.FieldType.int), 9, 3, false, 1433, 1432, 107, 345),
  (yX2_hold, prog_4_method_13_code, 3, none, 2, 2, false, 1437, 1436, 108, 334),
  (yX4_endCall, prog_6_method_11_code, 2, none, 4, 0, false, 1441, 1440, 109, 347),
  (yX4_beginFor, prog_6_method_15_code, 1, some (Jvm.ClassFile.FieldType.int), 4, 0, false, 1446, 1445, 110, 347),
  (yX9_object_, prog_11_method_6_code, 4, some (Jvm.ClassFile.FieldType.int), 9, 2, false, 1450, 1449, 111, 345),
  (yX9_push, prog_11_method_8_code, 5, none, 9, 2, false, 1455, 1454, 112, 345),
  (yX4_nextItem, prog_6_method_16_code, 5, some (Jvm.ClassFile.FieldType.int), 4, 1, false, 1459, 1458, 113, 347),
  (yX9_setLo, prog_11_method_7_code, 4, none, 9, 2, false, 1464, 1463, 114, 345),
  (yX2_hiOf, prog_4_method_23_code, 4, some (Jvm.ClassFile.FieldType.long), 2, 2, false, 1468, 1467, 115, 334),
  (yX2_placeOf, prog_4_method_22_code, 5, some (Jvm.ClassFile.FieldType.int), 2, 2, false, 1472, 1471, 116, 334),
  (yX2_loOf, prog_4_method_24_code, 4, some (Jvm.ClassFile.FieldType.long), 2, 2, false, 1476, 1475, 117, 334),
  (yX4_beginTry, prog_6_method_17_code, 2, some (Jvm.ClassFile.FieldType.int), 4, 1, false, 1480, 1479, 118, 347)]
def mt_m_4 : List mt_M := [(yX4_raised, prog_6_method_18_code, 4, some (Jvm.ClassFile.FieldType.int), 4, 0, false, 1484, 1483, 119, 347),
  (yX4_naming, prog_6_method_19_code, 2, some (Jvm.ClassFile.FieldType.int), 4, 1, false, 1491, 1490, 120, 347),
  (yX4_constant, prog_6_method_20_code, 2, some (Jvm.ClassFile.FieldType.int), 4, 1, false, 1495, 1494, 121, 347),
  (yX7_constantHi, prog_9_method_10_code, 2, some (Jvm.ClassFile.FieldType.long), 7, 1, false, 1499, 1498, 122, 340),
  (yX7_isConstant, prog_9_method_9_code, 2, some (Jvm.ClassFile.FieldType.boolean), 7, 1, false, 1503, 1502, 123, 340),
  (yX7_constantLo, prog_9_method_11_code, 2, some (Jvm.ClassFile.FieldType.long), 7, 1, false, 1508, 1507, 124, 340),
  (yX4_load, prog_6_method_22_code, 8, some (Jvm.ClassFile.FieldType.boolean), 4, 0, false, 1512, 1511, 125, 347),
  (yX4_frameUp, prog_6_method_21_code, 4, some (Jvm.ClassFile.FieldType.int), 4, 1, false, 1516, 1515, 126, 347),
  (yX2_firstAt, prog_4_method_9_code, 2, some (Jvm.ClassFile.FieldType.int), 2, 1, false, 1520, 1519, 127, 334),
  (yX5_hiOf, prog_7_method_8_code, 2, some (Jvm.ClassFile.FieldType.long), 5, 1, false, 1524, 1523, 128, 335),
  (yX5_known, prog_7_method_5_code, 2, some (Jvm.ClassFile.FieldType.boolean), 5, 1, false, 1528, 1527, 129, 335),
  (yX5_loOf, prog_7_method_9_code, 2, some (Jvm.ClassFile.FieldType.long), 5, 1, false, 1532, 1531, 130, 335),
  (yX4_store, prog_6_method_23_code, 3, some (Jvm.ClassFile.FieldType.int), 4, 0, false, 1536, 1535, 131, 347),
  (yX5_assign, prog_7_method_11_code, 10, none, 5, 3, false, 1540, 1539, 132, 335),
  (yX2_set, prog_4_method_27_code, 9, none, 2, 4, false, 1548, 1547, 133, 334),
  (yX4_unbind, prog_6_method_24_code, 5, some (Jvm.ClassFile.FieldType.int), 4, 0, false, 1554, 1553, 134, 347),
  (yX4_callee, prog_6_method_25_code, 3, some (Jvm.ClassFile.FieldType.int), 4, 0, false, 1558, 1557, 135, 347),
  (yX4_makeFunction, prog_6_method_26_code, 3, some (Jvm.ClassFile.FieldType.int), 4, 1, false, 1563, 1562, 136, 347),
  (yX2_create, prog_4_method_5_code, 3, some (Jvm.ClassFile.FieldType.int), 2, 1, false, 1567, 1566, 137, 334),
  (yX2_link, prog_4_method_12_code, 5, none, 2, 4, false, 1571, 1570, 138, 334),
  (yX4_makeClass, prog_6_method_27_code, 9, some (Jvm.ClassFile.FieldType.int), 4, 0, false, 1575, 1574, 139, 347),
  (yX5_nameHi, prog_7_method_6_code, 2, some (Jvm.ClassFile.FieldType.long), 5, 1, false, 1579, 1578, 140, 335),
  (yX5_nameLo, prog_7_method_7_code, 2, some (Jvm.ClassFile.FieldType.long), 5, 1, false, 1583, 1582, 141, 335),
  (yX2_append, prog_4_method_31_code, 12, some (Jvm.ClassFile.FieldType.boolean), 2, 5, false, 1587, 1586, 142, 334),
  (yX2_mostOf, prog_4_method_21_code, 1, some (Jvm.ClassFile.FieldType.int), 2, 1, true, 1590, 1589, 0, 334),
  (yX2_growRow, prog_4_method_32_code, 5, none, 2, 2, false, 1594, 1593, 143, 334),
  (yJ7_copyOf_c38d5, prog_25_method_124_code, 3, some ((Jvm.ClassFile.FieldType.array Jvm.ClassFile.FieldType.long)), 20, 2, true, 1597, 1596, 0, 350),
  (yJ9_min_7cf53, prog_19_method_69_code, 2, some (Jvm.ClassFile.FieldType.int), 21, 2, true, 1607, 1606, 0, 351),
  (yX9_replace, prog_11_method_12_code, 4, none, 9, 1, false, 1614, 1613, 144, 345),
  (yX6_act, prog_8_method_2_code, 2, some (Jvm.ClassFile.FieldType.int), 6, 1, false, 1618, 1617, 145, 348),
  (yX6_negate, prog_8_method_6_code, 3, some (Jvm.ClassFile.FieldType.int), 6, 0, false, 1625, 1624, 146, 348),
  (yX6_areBoth, prog_8_method_4_code, 2, some (Jvm.ClassFile.FieldType.boolean), 6, 1, false, 1633, 1632, 147, 348),
  (yX6_joinStrings, prog_8_method_8_code, 8, some (Jvm.ClassFile.FieldType.int), 6, 0, false, 1637, 1636, 148, 348),
  (yX11_byteOf, prog_1_method_14_code, 7, some (Jvm.ClassFile.FieldType.int), 11, 3, true, 1641, 1640, 0, 333),
  (yX6_joinLists, prog_8_method_9_code, 4, some (Jvm.ClassFile.FieldType.int), 6, 0, false, 1647, 1646, 149, 348),
  (yX2_appendAll, prog_4_method_33_code, 5, none, 2, 2, false, 1654, 1653, 150, 334),
  (yX6_add, prog_8_method_7_code, 8, some (Jvm.ClassFile.FieldType.int), 6, 0, false, 1663, 1662, 151, 348),
  (yX6_subtract, prog_8_method_10_code, 8, some (Jvm.ClassFile.FieldType.int), 6, 0, false, 1667, 1666, 152, 348),
  (yX6_multiply, prog_8_method_11_code, 8, some (Jvm.ClassFile.FieldType.int), 6, 0, false, 1671, 1670, 153, 348),
  (yX6_divide, prog_8_method_12_code, 5, some (Jvm.ClassFile.FieldType.int), 6, 0, false, 1676, 1675, 154, 348)]
def mt_m_5 : List mt_M := [(yJ9_floorDiv_f86c9, prog_19_method_49_code, 6, some (Jvm.ClassFile.FieldType.long), 21, 2, true, 1679, 1678, 0, 351),
  (yX6_remainder, prog_8_method_13_code, 3, some (Jvm.ClassFile.FieldType.int), 6, 0, false, 1683, 1682, 155, 348),
  (yJ9_floorMod_f86c9, prog_19_method_52_code, 6, some (Jvm.ClassFile.FieldType.long), 21, 2, true, 1686, 1685, 0, 351),
  (yX6_areEqual, prog_8_method_5_code, 1, some (Jvm.ClassFile.FieldType.boolean), 6, 0, false, 1690, 1689, 156, 348),
  (yX6_isIn, prog_8_method_16_code, 9, some (Jvm.ClassFile.FieldType.int), 6, 0, false, 1694, 1693, 157, 348),
  (yX11_isKey, prog_1_method_18_code, 2, some (Jvm.ClassFile.FieldType.boolean), 11, 1, true, 1699, 1698, 0, 333),
  (yX2_find, prog_4_method_29_code, 8, some (Jvm.ClassFile.FieldType.int), 2, 3, false, 1704, 1703, 158, 334),
  (yX6_indexString, prog_8_method_20_code, 5, some (Jvm.ClassFile.FieldType.int), 6, 1, false, 1710, 1709, 159, 348),
  (yX6_entryAt, prog_8_method_18_code, 5, some (Jvm.ClassFile.FieldType.int), 6, 2, true, 1713, 1712, 0, 348),
  (yX6_index, prog_8_method_19_code, 4, some (Jvm.ClassFile.FieldType.int), 6, 1, false, 1718, 1717, 160, 348),
  (yX6_locate, prog_8_method_17_code, 9, some (Jvm.ClassFile.FieldType.int), 6, 2, false, 1722, 1721, 161, 348),
  (yX6_putIndex, prog_8_method_21_code, 10, some (Jvm.ClassFile.FieldType.int), 6, 3, false, 1726, 1725, 162, 348),
  (yX6_deleteIndex, prog_8_method_22_code, 2, some (Jvm.ClassFile.FieldType.int), 6, 0, false, 1733, 1732, 163, 348),
  (yX2_delete, prog_4_method_35_code, 8, none, 2, 2, false, 1737, 1736, 164, 334),
  (yX6_compare, prog_8_method_14_code, 4, some (Jvm.ClassFile.FieldType.int), 6, 1, false, 1742, 1741, 165, 348),
  (yJ13_compare_74951, prog_18_method_42_code, 4, some (Jvm.ClassFile.FieldType.int), 22, 2, true, 1745, 1744, 0, 354),
  (yX6_compareStrings, prog_8_method_15_code, 4, some (Jvm.ClassFile.FieldType.int), 6, 0, false, 1749, 1748, 166, 348),
  (yX6_act_, prog_8_method_3_code, 3, some (Jvm.ClassFile.FieldType.int), 6, 2, false, 1754, 1753, 167, 348),
  (yX6_attribute, prog_8_method_23_code, 17, some (Jvm.ClassFile.FieldType.int), 6, 2, false, 1758, 1757, 168, 348),
  (yX6_hasAttributes, prog_8_method_24_code, 2, some (Jvm.ClassFile.FieldType.boolean), 6, 1, false, 1762, 1761, 169, 348),
  (yX2_holderOf, prog_4_method_30_code, 8, some (Jvm.ClassFile.FieldType.int), 2, 3, false, 1769, 1768, 170, 334),
  (yX6_putAttribute, prog_8_method_25_code, 14, some (Jvm.ClassFile.FieldType.int), 6, 3, false, 1777, 1776, 171, 348),
  (yX6_deleteAttribute, prog_8_method_26_code, 4, some (Jvm.ClassFile.FieldType.int), 6, 1, false, 1781, 1780, 172, 348),
  (yX6_makeList, prog_8_method_27_code, 4, some (Jvm.ClassFile.FieldType.int), 6, 1, false, 1785, 1784, 173, 348),
  (yX6_makeDict, prog_8_method_28_code, 9, some (Jvm.ClassFile.FieldType.int), 6, 1, false, 1789, 1788, 174, 348),
  (yX4_callsBuiltIn, prog_6_method_7_code, 1, some (Jvm.ClassFile.FieldType.boolean), 4, 0, false, 1793, 1792, 175, 347),
  (yX4_builtIn, prog_6_method_8_code, 1, some (Jvm.ClassFile.FieldType.int), 4, 0, false, 1797, 1796, 176, 347),
  (yX0_act, prog_2_method_5_code, 3, some (Jvm.ClassFile.FieldType.int), 0, 2, false, 1801, 1800, 177, 346),
  (yX0_print, prog_2_method_13_code, 4, some (Jvm.ClassFile.FieldType.int), 0, 1, false, 1805, 1804, 178, 346),
  (yX0_writeItems, prog_2_method_21_code, 5, none, 0, 1, false, 1811, 1810, 179, 346),
  (yX0_put, prog_2_method_14_code, 2, none, 0, 1, false, 1816, 1815, 180, 346),
  (yX0_putWord, prog_2_method_15_code, 3, none, 0, 1, false, 1821, 1820, 181, 346),
  (yX2_keyHi, prog_4_method_25_code, 4, some (Jvm.ClassFile.FieldType.long), 2, 2, false, 1827, 1826, 182, 334),
  (yX2_keyLo, prog_4_method_26_code, 4, some (Jvm.ClassFile.FieldType.long), 2, 2, false, 1831, 1830, 183, 334),
  (yX0_writePart, prog_2_method_19_code, 5, none, 0, 2, false, 1835, 1834, 184, 346),
  (yX0_putInt, prog_2_method_17_code, 4, none, 0, 1, false, 1840, 1839, 185, 346),
  (yX0_findDigits, prog_2_method_18_code, 6, some (Jvm.ClassFile.FieldType.int), 0, 1, false, 1844, 1843, 186, 346),
  (yJ9_abs_0f7a4, prog_19_method_59_code, 1, some (Jvm.ClassFile.FieldType.int), 21, 1, true, 1848, 1847, 0, 351),
  (yX0_putString, prog_2_method_16_code, 7, none, 0, 2, false, 1852, 1851, 187, 346),
  (yX0_wordOf, prog_2_method_20_code, 1, some ((Jvm.ClassFile.FieldType.object "java/lang/String")), 0, 1, true, 1858, 1857, 0, 346)]
def mt_m_6 : List mt_M := [(yX0_writeTitled, prog_2_method_22_code, 6, none, 0, 1, false, 1874, 1873, 188, 346),
  (yX2_infoAt, prog_4_method_11_code, 2, some (Jvm.ClassFile.FieldType.int), 2, 1, false, 1879, 1878, 189, 334),
  (yX7_titleOf, prog_9_method_20_code, 2, some (Jvm.ClassFile.FieldType.int), 7, 1, false, 1883, 1882, 190, 340),
  (yX0_range, prog_2_method_7_code, 10, some (Jvm.ClassFile.FieldType.int), 0, 1, false, 1891, 1890, 191, 346),
  (yX0_len, prog_2_method_6_code, 2, some (Jvm.ClassFile.FieldType.int), 0, 0, false, 1900, 1899, 192, 346),
  (yX0_push, prog_2_method_8_code, 2, some (Jvm.ClassFile.FieldType.int), 0, 0, false, 1904, 1903, 193, 346),
  (yX0_pop, prog_2_method_9_code, 3, some (Jvm.ClassFile.FieldType.int), 0, 0, false, 1909, 1908, 194, 346),
  (yX0_keys, prog_2_method_10_code, 5, some (Jvm.ClassFile.FieldType.int), 0, 0, false, 1915, 1914, 195, 346),
  (yX0_text, prog_2_method_11_code, 7, some (Jvm.ClassFile.FieldType.int), 0, 0, false, 1919, 1918, 196, 346),
  (yX0_refs, prog_2_method_12_code, 2, some (Jvm.ClassFile.FieldType.int), 0, 0, false, 1926, 1925, 197, 346),
  (yX2_holdsOf, prog_4_method_16_code, 2, some (Jvm.ClassFile.FieldType.int), 2, 1, false, 1930, 1929, 198, 334),
  (yX2_alive, prog_4_method_3_code, 1, some (Jvm.ClassFile.FieldType.int), 2, 0, false, 1934, 1933, 199, 334),
  (yX2_collect, prog_4_method_17_code, 3, some (Jvm.ClassFile.FieldType.int), 2, 0, false, 1938, 1937, 200, 334),
  (yX4_call, prog_6_method_28_code, 3, some (Jvm.ClassFile.FieldType.int), 4, 1, false, 1942, 1941, 201, 347),
  (yX4_enter, prog_6_method_30_code, 10, some (Jvm.ClassFile.FieldType.int), 4, 4, false, 1948, 1947, 202, 347),
  (yX7_parametersOf, prog_9_method_18_code, 2, some (Jvm.ClassFile.FieldType.int), 7, 1, false, 1953, 1952, 203, 340),
  (yX7_localsOf, prog_9_method_19_code, 2, some (Jvm.ClassFile.FieldType.int), 7, 1, false, 1957, 1956, 204, 340),
  (yX2_openFrame, prog_4_method_34_code, 3, none, 2, 2, false, 1962, 1961, 205, 334),
  (yJ7_fill_bad5a, prog_25_method_102_code, 6, none, 20, 4, true, 1965, 1964, 0, 350),
  (yJ7_rangeCheck_23922, prog_25_method_30_code, 3, none, 20, 3, true, 1968, 1967, 0, 350),
  (yX2_fill, prog_4_method_28_code, 8, none, 2, 4, false, 1972, 1971, 206, 334),
  (yX9_handOver, prog_11_method_10_code, 3, none, 9, 1, false, 1976, 1975, 207, 345),
  (yX2_unkeep, prog_4_method_15_code, 2, none, 2, 1, false, 1980, 1979, 208, 334),
  (yX7_startOf, prog_9_method_17_code, 2, some (Jvm.ClassFile.FieldType.int), 7, 1, false, 1984, 1983, 209, 340),
  (yX2_secondAt, prog_4_method_10_code, 2, some (Jvm.ClassFile.FieldType.int), 2, 1, false, 1988, 1987, 210, 334),
  (yX4_makeInstance, prog_6_method_29_code, 12, some (Jvm.ClassFile.FieldType.int), 4, 2, false, 1992, 1991, 211, 347),
  (yX4_isCaught, prog_6_method_9_code, 2, some (Jvm.ClassFile.FieldType.boolean), 4, 1, false, 1999, 1998, 212, 347),
  (yX4_endCalls, prog_6_method_10_code, 3, none, 4, 1, false, 2003, 2002, 213, 347),
  (yX4_errorLine, prog_6_method_4_code, 1, some (Jvm.ClassFile.FieldType.int), 4, 0, false, 2007, 2006, 214, 347),
  (yX11_line, prog_1_method_5_code, 1, some (Jvm.ClassFile.FieldType.int), 11, 0, false, 2011, 2009, 2010, 333),
  (yX11_octet, prog_1_method_6_code, 2, some (Jvm.ClassFile.FieldType.int), 11, 1, false, 2015, 2013, 2014, 333),
  (yX0_outLength, prog_2_method_3_code, 1, some (Jvm.ClassFile.FieldType.int), 0, 0, false, 2019, 2018, 215, 346),
  (yX0_outByte, prog_2_method_4_code, 2, some (Jvm.ClassFile.FieldType.int), 0, 1, false, 2023, 2022, 216, 346),
  (yX11_count, prog_1_method_7_code, 2, some (Jvm.ClassFile.FieldType.int), 11, 1, false, 2027, 2025, 2026, 333),
  (yX2_countOf, prog_4_method_4_code, 2, some (Jvm.ClassFile.FieldType.int), 2, 1, false, 2032, 2031, 217, 334),
  (yX5_boundCount, prog_7_method_10_code, 1, some (Jvm.ClassFile.FieldType.int), 5, 0, false, 2036, 2035, 218, 335),
  (yX4_stepsDone, prog_6_method_2_code, 1, some (Jvm.ClassFile.FieldType.int), 4, 0, false, 2040, 2039, 219, 347),
  (yX11_bind, prog_1_method_8_code, 4, some (Jvm.ClassFile.FieldType.int), 11, 1, false, 2044, 2042, 2043, 333),
  (yX11_tapeName, prog_1_method_11_code, 2, some (Jvm.ClassFile.FieldType.int), 11, 0, false, 2048, 2047, 220, 333),
  (yX3_onlyName, prog_5_method_18_code, 2, some (Jvm.ClassFile.FieldType.int), 3, 1, false, 2052, 2051, 221, 341)]
def mt_m_7 : List mt_M := [(yX11_value, prog_1_method_9_code, 3, some (Jvm.ClassFile.FieldType.long), 11, 0, false, 2058, 2056, 2057, 333),
  (yX14_init, prog_14_method_117_code, 1, none, 14, 0, false, 2067, 2066, 0, 349),
  (yX14_feed, prog_14_method_118_code, 8, some (Jvm.ClassFile.FieldType.int), 14, 5, false, 2308, 2306, 2307, 349),
  (yX14_end, prog_14_method_119_code, 2, some (Jvm.ClassFile.FieldType.int), 14, 1, false, 2312, 2310, 2311, 349),
  (yX14_in, prog_14_method_1_code, 6, some (Jvm.ClassFile.FieldType.boolean), 14, 3, true, 2315, 2314, 0, 349),
  (yX14_run, prog_14_method_120_code, 4, some (Jvm.ClassFile.FieldType.int), 14, 1, false, 2319, 2317, 2318, 349),
  (yX14_compile, prog_14_method_25_code, 3, some (Jvm.ClassFile.FieldType.int), 14, 2, false, 2324, 2323, 222, 349),
  (yX14_lex, prog_14_method_10_code, 8, none, 14, 2, false, 2328, 2327, 223, 349),
  (yX14_lexLine, prog_14_method_11_code, 12, none, 14, 5, false, 2332, 2331, 224, 349),
  (yX14_isLetter, prog_14_method_7_code, 1, some (Jvm.ClassFile.FieldType.boolean), 14, 1, true, 2335, 2334, 0, 349),
  (yX14_isDigit, prog_14_method_8_code, 1, some (Jvm.ClassFile.FieldType.boolean), 14, 1, true, 2338, 2337, 0, 349),
  (yX14_wordOf, prog_14_method_6_code, 3, some (Jvm.ClassFile.FieldType.int), 14, 3, true, 2341, 2340, 0, 349),
  (yX14_isWord, prog_14_method_5_code, 5, some (Jvm.ClassFile.FieldType.boolean), 14, 4, true, 2345, 2344, 0, 349),
  (yX14_token, prog_14_method_9_code, 5, none, 14, 4, false, 2374, 2373, 225, 349),
  (yX14_nameOf, prog_14_method_2_code, 7, some (Jvm.ClassFile.FieldType.int), 14, 3, false, 2378, 2377, 226, 349),
  (yJ7_copyOf_9075b, prog_25_method_121_code, 3, some ((Jvm.ClassFile.FieldType.array Jvm.ClassFile.FieldType.byte)), 20, 2, true, 2381, 2380, 0, 350),
  (yJ7_copyOf_59c91, prog_25_method_123_code, 3, some ((Jvm.ClassFile.FieldType.array Jvm.ClassFile.FieldType.int)), 20, 2, true, 2389, 2388, 0, 350),
  (yX14_packed, prog_14_method_12_code, 8, some (Jvm.ClassFile.FieldType.long), 14, 4, true, 2402, 2401, 0, 349),
  (yX12_init, prog_15_method_1_code, 1, none, 12, 0, false, 2406, 2405, 0, 355),
  (yX14_bad, prog_14_method_15_code, 1, some (Jvm.ClassFile.FieldType.boolean), 14, 0, false, 2457, 2456, 227, 349),
  (yJ9_max_7cf53, prog_19_method_65_code, 2, some (Jvm.ClassFile.FieldType.int), 21, 2, true, 2460, 2459, 0, 351),
  (yX14_statement, prog_14_method_27_code, 3, some (Jvm.ClassFile.FieldType.boolean), 14, 0, false, 2464, 2463, 228, 349),
  (yX14_put_, prog_14_method_21_code, 3, none, 14, 2, false, 2468, 2467, 229, 349),
  (yX12_put, prog_15_method_2_code, 2, none, 12, 1, false, 2472, 2470, 2471, 355),
  (yX14_simple, prog_14_method_55_code, 3, some (Jvm.ClassFile.FieldType.boolean), 14, 0, false, 2477, 2476, 230, 349),
  (yX14_assignment, prog_14_method_59_code, 7, some (Jvm.ClassFile.FieldType.boolean), 14, 0, false, 2481, 2480, 231, 349),
  (yX14_expression, prog_14_method_45_code, 3, some (Jvm.ClassFile.FieldType.boolean), 14, 1, false, 2485, 2484, 232, 349),
  (yX14_conjunction, prog_14_method_46_code, 3, some (Jvm.ClassFile.FieldType.boolean), 14, 1, false, 2489, 2488, 233, 349),
  (yX14_negation, prog_14_method_47_code, 2, some (Jvm.ClassFile.FieldType.boolean), 14, 1, false, 2493, 2492, 234, 349),
  (yX14_isWord_, prog_14_method_17_code, 2, some (Jvm.ClassFile.FieldType.boolean), 14, 1, false, 2497, 2496, 235, 349),
  (yX14_comparison, prog_14_method_48_code, 3, some (Jvm.ClassFile.FieldType.boolean), 14, 1, false, 2501, 2500, 236, 349),
  (yX14_sum, prog_14_method_49_code, 3, some (Jvm.ClassFile.FieldType.boolean), 14, 1, false, 2505, 2504, 237, 349),
  (yX14_term, prog_14_method_50_code, 3, some (Jvm.ClassFile.FieldType.boolean), 14, 1, false, 2509, 2508, 238, 349),
  (yX14_factor, prog_14_method_51_code, 2, some (Jvm.ClassFile.FieldType.boolean), 14, 1, false, 2513, 2512, 239, 349),
  (yX14_isSign, prog_14_method_16_code, 2, some (Jvm.ClassFile.FieldType.boolean), 14, 1, false, 2517, 2516, 240, 349),
  (yX14_post, prog_14_method_52_code, 3, some (Jvm.ClassFile.FieldType.boolean), 14, 1, false, 2521, 2520, 241, 349),
  (yX14_atom, prog_14_method_54_code, 4, some (Jvm.ClassFile.FieldType.boolean), 14, 1, false, 2525, 2524, 242, 349),
  (yX14_name, prog_14_method_44_code, 5, none, 14, 2, false, 2529, 2528, 243, 349),
  (yX14_isOutside, prog_14_method_38_code, 3, some (Jvm.ClassFile.FieldType.boolean), 14, 1, false, 2533, 2532, 244, 349),
  (yX14_localOf, prog_14_method_35_code, 5, some (Jvm.ClassFile.FieldType.int), 14, 2, false, 2537, 2536, 245, 349)]
def mt_m_8 : List mt_M := [(yX12_whole, prog_15_method_3_code, 3, some (Jvm.ClassFile.FieldType.int), 12, 1, false, 2541, 2539, 2540, 355),
  (yX12_string, prog_15_method_4_code, 5, some (Jvm.ClassFile.FieldType.int), 12, 2, false, 2546, 2544, 2545, 355),
  (yX14_put, prog_14_method_20_code, 2, none, 14, 1, false, 2550, 2549, 246, 349),
  (yX14_takeSign, prog_14_method_18_code, 2, some (Jvm.ClassFile.FieldType.boolean), 14, 1, false, 2554, 2553, 247, 349),
  (yX14_list, prog_14_method_53_code, 6, some (Jvm.ClassFile.FieldType.int), 14, 4, false, 2558, 2557, 248, 349),
  (yX14_hole, prog_14_method_22_code, 2, some (Jvm.ClassFile.FieldType.int), 14, 1, false, 2562, 2561, 249, 349),
  (yX14_fill, prog_14_method_23_code, 2, none, 14, 1, false, 2566, 2565, 250, 349),
  (yX14_cut, prog_14_method_57_code, 1, none, 14, 0, false, 2570, 2569, 251, 349),
  (yX14_delete, prog_14_method_58_code, 3, some (Jvm.ClassFile.FieldType.boolean), 14, 0, false, 2574, 2573, 252, 349),
  (yX14_jumpTo, prog_14_method_24_code, 3, none, 14, 2, false, 2578, 2577, 253, 349),
  (yX14_global, prog_14_method_56_code, 1, some (Jvm.ClassFile.FieldType.boolean), 14, 0, false, 2582, 2581, 254, 349),
  (yX14_isParameter, prog_14_method_34_code, 3, some (Jvm.ClassFile.FieldType.boolean), 14, 1, false, 2586, 2585, 255, 349),
  (yX14_takeLine, prog_14_method_19_code, 1, some (Jvm.ClassFile.FieldType.boolean), 14, 0, false, 2590, 2589, 256, 349),
  (yX14_choice, prog_14_method_28_code, 6, some (Jvm.ClassFile.FieldType.boolean), 14, 1, false, 2594, 2593, 257, 349),
  (yX14_block, prog_14_method_26_code, 5, some (Jvm.ClassFile.FieldType.boolean), 14, 2, false, 2598, 2597, 258, 349),
  (yX14_classStatement, prog_14_method_43_code, 3, some (Jvm.ClassFile.FieldType.boolean), 14, 0, false, 2602, 2601, 259, 349),
  (yX14_define, prog_14_method_40_code, 9, some (Jvm.ClassFile.FieldType.boolean), 14, 2, false, 2606, 2605, 260, 349),
  (yX12_def, prog_15_method_5_code, 2, some (Jvm.ClassFile.FieldType.int), 12, 1, false, 2610, 2608, 2609, 355),
  (yX14_scan, prog_14_method_37_code, 6, none, 14, 2, false, 2614, 2613, 261, 349),
  (yX14_bindHere, prog_14_method_36_code, 2, none, 14, 1, false, 2618, 2617, 262, 349),
  (yX14_forgetHere, prog_14_method_39_code, 4, none, 14, 1, false, 2622, 2621, 263, 349),
  (yX14_give, prog_14_method_42_code, 3, none, 14, 1, false, 2626, 2625, 264, 349),
  (yX14_whileLoop, prog_14_method_31_code, 6, some (Jvm.ClassFile.FieldType.boolean), 14, 2, false, 2630, 2629, 265, 349),
  (yX14_beginLoop, prog_14_method_29_code, 2, none, 14, 1, false, 2634, 2633, 266, 349),
  (yX14_endLoop, prog_14_method_30_code, 3, none, 14, 0, false, 2638, 2637, 267, 349),
  (yX14_forLoop, prog_14_method_32_code, 7, some (Jvm.ClassFile.FieldType.boolean), 14, 2, false, 2642, 2641, 268, 349),
  (yX14_defineClass, prog_14_method_41_code, 7, some (Jvm.ClassFile.FieldType.boolean), 14, 1, false, 2646, 2645, 269, 349),
  (yX14_attempt, prog_14_method_33_code, 4, some (Jvm.ClassFile.FieldType.boolean), 14, 1, false, 2651, 2650, 270, 349),
  (yX14_work, prog_14_method_79_code, 1, some (Jvm.ClassFile.FieldType.int), 14, 0, false, 2655, 2654, 271, 349),
  (yX14_enter, prog_14_method_80_code, 6, none, 14, 5, false, 2659, 2658, 272, 349),
  (yX14_once, prog_14_method_81_code, 8, some (Jvm.ClassFile.FieldType.boolean), 14, 0, false, 2663, 2662, 273, 349),
  (yX14_fail, prog_14_method_60_code, 2, some (Jvm.ClassFile.FieldType.boolean), 14, 1, false, 2667, 2666, 274, 349),
  (yX14_push, prog_14_method_73_code, 6, none, 14, 3, false, 2671, 2670, 275, 349),
  (yX14_pushInt, prog_14_method_74_code, 3, none, 14, 1, false, 2675, 2674, 276, 349),
  (yX14_name_, prog_14_method_83_code, 7, some (Jvm.ClassFile.FieldType.boolean), 14, 4, false, 2679, 2678, 277, 349),
  (yX14_notBound, prog_14_method_84_code, 4, some (Jvm.ClassFile.FieldType.boolean), 14, 2, false, 2683, 2682, 278, 349),
  (yX14_builtOf, prog_14_method_4_code, 2, some (Jvm.ClassFile.FieldType.int), 14, 1, false, 2687, 2686, 279, 349),
  (yX14_isName, prog_14_method_3_code, 4, some (Jvm.ClassFile.FieldType.boolean), 14, 2, false, 2692, 2691, 280, 349),
  (yX13_set, prog_16_method_5_code, 7, none, 13, 4, false, 2705, 2703, 2704, 356),
  (yX14_isTrue, prog_14_method_78_code, 3, some (Jvm.ClassFile.FieldType.boolean), 14, 1, false, 2709, 2708, 281, 349)]
def mt_m_9 : List mt_M := [(yX14_many, prog_14_method_13_code, 2, some (Jvm.ClassFile.FieldType.int), 14, 1, true, 2712, 2711, 0, 349),
  (yX14_thingAt, prog_14_method_76_code, 2, some ((Jvm.ClassFile.FieldType.object "SnakeCoreModel$Thing")), 14, 1, false, 2717, 2716, 282, 349),
  (yX14_makeClass, prog_14_method_103_code, 9, some (Jvm.ClassFile.FieldType.boolean), 14, 2, false, 2721, 2720, 283, 349),
  (yX14_isThing, prog_14_method_77_code, 3, some (Jvm.ClassFile.FieldType.boolean), 14, 2, false, 2725, 2724, 284, 349),
  (yX14_fresh, prog_14_method_68_code, 4, some (Jvm.ClassFile.FieldType.int), 14, 1, false, 2729, 2728, 285, 349),
  (yX14_free, prog_14_method_69_code, 2, some (Jvm.ClassFile.FieldType.int), 14, 0, false, 2733, 2732, 286, 349),
  (yX14_settle, prog_14_method_65_code, 3, none, 14, 0, false, 2737, 2736, 287, 349),
  (yX14_countNames, prog_14_method_63_code, 2, none, 14, 0, false, 2741, 2740, 288, 349),
  (yJ7_fill_53178, prog_25_method_103_code, 4, none, 20, 2, true, 2744, 2743, 0, 350),
  (yX14_hold, prog_14_method_61_code, 5, none, 14, 3, false, 2748, 2747, 289, 349),
  (yX14_holdAll, prog_14_method_62_code, 4, none, 14, 2, false, 2752, 2751, 290, 349),
  (yX14_countWork, prog_14_method_64_code, 3, none, 14, 1, false, 2756, 2755, 291, 349),
  (yX14_drop, prog_14_method_66_code, 5, some (Jvm.ClassFile.FieldType.int), 14, 2, false, 2760, 2759, 292, 349),
  (yX14_dropOne, prog_14_method_67_code, 3, some (Jvm.ClassFile.FieldType.int), 14, 2, false, 2764, 2763, 293, 349),
  (yX13_init, prog_16_method_1_code, 1, none, 13, 0, false, 2768, 2767, 0, 356),
  (yX13_add, prog_16_method_4_code, 6, none, 13, 3, false, 2820, 2818, 2819, 356),
  (yX13_room, prog_16_method_2_code, 3, none, 13, 1, false, 2824, 2822, 2823, 356),
  (yX13_key, prog_16_method_7_code, 7, none, 13, 4, false, 2831, 2829, 2830, 356),
  (yX13_keyRoom, prog_16_method_3_code, 3, none, 13, 1, false, 2835, 2834, 294, 356),
  (yX14_call, prog_14_method_104_code, 4, some (Jvm.ClassFile.FieldType.boolean), 14, 1, false, 2839, 2838, 295, 349),
  (yX14_built, prog_14_method_108_code, 12, some (Jvm.ClassFile.FieldType.boolean), 14, 3, false, 2843, 2842, 296, 349),
  (yX14_print, prog_14_method_116_code, 5, some (Jvm.ClassFile.FieldType.boolean), 14, 2, false, 2847, 2846, 297, 349),
  (yX14_one, prog_14_method_112_code, 2, none, 14, 1, false, 2851, 2850, 298, 349),
  (yX14_say_, prog_14_method_114_code, 9, none, 14, 4, false, 2855, 2854, 299, 349),
  (yX14_say, prog_14_method_113_code, 3, none, 14, 1, false, 2859, 2858, 300, 349),
  (yX14_digits, prog_14_method_111_code, 8, some (Jvm.ClassFile.FieldType.int), 14, 1, false, 2863, 2862, 301, 349),
  (yX14_byteOf, prog_14_method_14_code, 5, some (Jvm.ClassFile.FieldType.int), 14, 3, true, 2866, 2865, 0, 349),
  (yX14_sayThing, prog_14_method_115_code, 5, none, 14, 2, false, 2870, 2869, 302, 349),
  (yX14_range, prog_14_method_109_code, 13, some (Jvm.ClassFile.FieldType.boolean), 14, 2, false, 2882, 2881, 303, 349),
  (yJ13_compareUnsigned_74951, prog_18_method_43_code, 4, some (Jvm.ClassFile.FieldType.int), 22, 2, true, 2886, 2885, 0, 354),
  (yX14_text, prog_14_method_110_code, 4, some (Jvm.ClassFile.FieldType.boolean), 14, 1, false, 2892, 2891, 304, 349),
  (yX14_copy, prog_14_method_75_code, 3, none, 14, 2, false, 2896, 2895, 305, 349),
  (yX14_alive, prog_14_method_70_code, 6, some (Jvm.ClassFile.FieldType.int), 14, 0, false, 2900, 2899, 306, 349),
  (yX14_collect, prog_14_method_71_code, 4, some (Jvm.ClassFile.FieldType.int), 14, 0, false, 2904, 2903, 307, 349),
  (yJ7_fill_49daa, prog_25_method_111_code, 4, none, 20, 2, true, 2907, 2906, 0, 350),
  (yX14_reach, prog_14_method_72_code, 3, some (Jvm.ClassFile.FieldType.int), 14, 2, false, 2911, 2910, 308, 349),
  (yX14_begin, prog_14_method_105_code, 12, some (Jvm.ClassFile.FieldType.boolean), 14, 5, false, 2915, 2914, 309, 349),
  (yX14_make, prog_14_method_106_code, 7, some (Jvm.ClassFile.FieldType.boolean), 14, 2, false, 2919, 2918, 310, 349),
  (yX14_classWith, prog_14_method_99_code, 4, some (Jvm.ClassFile.FieldType.int), 14, 2, false, 2923, 2922, 311, 349),
  (yX13_find, prog_16_method_6_code, 7, some (Jvm.ClassFile.FieldType.int), 13, 3, false, 2927, 2925, 2926, 356)]
def mt_m_10 : List mt_M := [(yX14_plain, prog_14_method_82_code, 4, some (Jvm.ClassFile.FieldType.boolean), 14, 2, false, 2931, 2930, 312, 349),
  (yX14_binary, prog_14_method_87_code, 7, some (Jvm.ClassFile.FieldType.boolean), 14, 1, false, 2935, 2934, 313, 349),
  (yX14_isEqual, prog_14_method_85_code, 7, some (Jvm.ClassFile.FieldType.boolean), 14, 4, false, 2939, 2938, 314, 349),
  (yX14_isKey, prog_14_method_91_code, 2, some (Jvm.ClassFile.FieldType.boolean), 14, 1, false, 2943, 2942, 315, 349),
  (yX14_orderOf, prog_14_method_86_code, 4, some (Jvm.ClassFile.FieldType.int), 14, 2, false, 2947, 2946, 316, 349),
  (yX14_reckon, prog_14_method_88_code, 10, some (Jvm.ClassFile.FieldType.boolean), 14, 3, false, 2952, 2951, 317, 349),
  (yX14_joinStrings, prog_14_method_89_code, 6, some (Jvm.ClassFile.FieldType.boolean), 14, 2, false, 2956, 2955, 318, 349),
  (yX14_joinLists, prog_14_method_90_code, 7, some (Jvm.ClassFile.FieldType.boolean), 14, 2, false, 2960, 2959, 319, 349),
  (yJ9_multiplyHigh_f86c9, prog_19_method_45_code, 20, some (Jvm.ClassFile.FieldType.long), 21, 2, true, 2963, 2962, 0, 351),
  (yX14_getItem, prog_14_method_94_code, 6, some (Jvm.ClassFile.FieldType.boolean), 14, 0, false, 2972, 2971, 320, 349),
  (yX14_placeOf, prog_14_method_92_code, 5, some (Jvm.ClassFile.FieldType.int), 14, 2, false, 2976, 2975, 321, 349),
  (yX14_error, prog_14_method_93_code, 2, some (Jvm.ClassFile.FieldType.int), 14, 1, false, 2980, 2979, 322, 349),
  (yX14_getAttribute, prog_14_method_100_code, 10, some (Jvm.ClassFile.FieldType.boolean), 14, 1, false, 2984, 2983, 323, 349),
  (yX14_makeList, prog_14_method_97_code, 4, some (Jvm.ClassFile.FieldType.boolean), 14, 1, false, 2988, 2987, 324, 349),
  (yX14_makeDict, prog_14_method_98_code, 8, some (Jvm.ClassFile.FieldType.boolean), 14, 1, false, 2992, 2991, 325, 349),
  (yX14_setItem, prog_14_method_95_code, 6, some (Jvm.ClassFile.FieldType.boolean), 14, 3, false, 2996, 2995, 326, 349),
  (yX14_setAttribute, prog_14_method_101_code, 6, some (Jvm.ClassFile.FieldType.boolean), 14, 3, false, 3000, 2999, 327, 349),
  (yX14_deleteItem, prog_14_method_96_code, 3, some (Jvm.ClassFile.FieldType.boolean), 14, 0, false, 3004, 3003, 328, 349),
  (yX13_remove, prog_16_method_8_code, 3, none, 13, 1, false, 3008, 3006, 3007, 356),
  (yX14_deleteAttribute, prog_14_method_102_code, 4, some (Jvm.ClassFile.FieldType.boolean), 14, 1, false, 3013, 3012, 329, 349),
  (yX14_leave, prog_14_method_107_code, 3, some (Jvm.ClassFile.FieldType.boolean), 14, 0, false, 3017, 3016, 330, 349),
  (yX14_line, prog_14_method_121_code, 1, some (Jvm.ClassFile.FieldType.int), 14, 0, false, 3022, 3020, 3021, 349),
  (yX14_octet, prog_14_method_122_code, 2, some (Jvm.ClassFile.FieldType.int), 14, 1, false, 3026, 3024, 3025, 349),
  (yX14_count, prog_14_method_123_code, 4, some (Jvm.ClassFile.FieldType.int), 14, 1, false, 3030, 3028, 3029, 349),
  (yX14_bind, prog_14_method_125_code, 4, some (Jvm.ClassFile.FieldType.int), 14, 1, false, 3035, 3033, 3034, 349),
  (yX14_tapeName, prog_14_method_124_code, 3, some (Jvm.ClassFile.FieldType.int), 14, 0, false, 3039, 3038, 331, 349),
  (yX14_value, prog_14_method_126_code, 2, some (Jvm.ClassFile.FieldType.long), 14, 0, false, 3044, 3042, 3043, 349)]
def mt_m : List mt_M := mt_m_0 ++ mt_m_1 ++ mt_m_2 ++ mt_m_3 ++ mt_m_4 ++ mt_m_5 ++ mt_m_6 ++ mt_m_7 ++ mt_m_8 ++ mt_m_9 ++ mt_m_10
-- own fields: pool entry, class, field, nest host (0 none), place of the link word
def mt_f : List (List (Nat × Nat × Nat × Nat × Nat)) := [[(9, 0, 0, 0, 789), (15, 0, 1, 0, 790), (19, 0, 2, 0, 791), (23, 0, 3, 0, 792), (27, 0, 4, 0, 793), (31, 0, 5, 0, 794), (34, 0, 6, 0, 795), (155, 0, 7, 0, 796)],
  [(9, 1, 0, 0, 704), (15, 1, 1, 0, 705), (19, 1, 2, 0, 706), (27, 3, 5, 1, 596), (42, 7, 7, 1, 552), (49, 1, 3, 0, 707), (108, 1, 4, 0, 710), (111, 3, 9, 1, 606), (118, 3, 10, 1, 608), (126, 3, 11, 1, 610), (129, 3, 12, 1, 612)],
  [(11, 2, 0, 0, 373), (15, 2, 1, 0, 374), (18, 2, 2, 0, 375), (21, 2, 3, 0, 377), (24, 2, 4, 0, 380), (27, 2, 5, 0, 381), (30, 2, 6, 0, 382), (33, 2, 7, 0, 383), (38, 2, 8, 0, 384), (42, 2, 9, 0, 385), (45, 2, 10, 0, 386), (48, 2, 11, 0, 387), (51, 2, 12, 0, 388), (55, 2, 13, 0, 389), (59, 2, 15, 0, 391), (62, 2, 14, 0, 390), (73, 2, 16, 0, 392)],
  [(9, 3, 0, 0, 590), (15, 3, 1, 0, 591), (19, 3, 2, 0, 592), (23, 3, 3, 0, 593), (26, 3, 13, 0, 613), (29, 3, 6, 0, 599), (32, 3, 7, 0, 601), (38, 3, 5, 0, 597), (57, 3, 8, 0, 603), (60, 3, 4, 0, 595), (99, 3, 9, 0, 605), (102, 3, 10, 0, 607), (110, 3, 11, 0, 609), (113, 3, 12, 0, 611)],
  [(11, 4, 0, 0, 836), (15, 4, 1, 0, 837), (19, 4, 2, 0, 838), (23, 4, 3, 0, 839), (27, 4, 5, 0, 841), (36, 4, 4, 0, 840), (40, 4, 6, 0, 842), (44, 4, 7, 0, 843), (47, 4, 8, 0, 844), (50, 4, 9, 0, 845), (53, 4, 10, 0, 846), (56, 4, 11, 0, 847), (59, 4, 12, 0, 848), (62, 4, 18, 0, 854), (66, 4, 17, 0, 853), (69, 4, 16, 0, 852), (72, 4, 19, 0, 855), (75, 4, 14, 0, 850), (78, 4, 15, 0, 851), (122, 9, 3, 1, 773), (150, 4, 13, 0, 849), (156, 2, 3, 1, 379)],
  [(11, 5, 0, 0, 508), (15, 5, 1, 0, 509), (19, 5, 2, 0, 510), (22, 5, 3, 0, 511), (26, 5, 4, 0, 512), (29, 5, 5, 0, 513), (32, 5, 6, 0, 514), (77, 5, 7, 0, 515), (85, 5, 8, 0, 516), (92, 2, 2, 1, 376)],
  [(9, 6, 0, 0, 826), (15, 6, 1, 0, 827), (19, 6, 2, 0, 828)],
  [(12, 7, 0, 0, 544), (16, 7, 1, 0, 545), (20, 7, 2, 0, 546), (23, 7, 3, 0, 547), (26, 7, 4, 0, 548), (29, 7, 5, 0, 549), (32, 7, 6, 0, 550), (35, 7, 7, 0, 551), (43, 7, 10, 0, 560), (47, 7, 8, 0, 555), (59, 7, 9, 0, 557)],
  [(7, 8, 0, 0, 650), (13, 8, 1, 0, 651), (17, 8, 2, 0, 652), (20, 8, 3, 0, 653), (23, 8, 4, 0, 654), (26, 8, 5, 0, 655), (29, 8, 6, 0, 656), (32, 8, 7, 0, 657), (35, 8, 8, 0, 658), (38, 8, 9, 0, 659), (41, 8, 10, 0, 660), (44, 8, 11, 0, 661), (48, 8, 12, 0, 662), (51, 8, 13, 0, 663), (54, 8, 14, 0, 664), (57, 7, 10, 1, 559)],
  [(9, 9, 0, 0, 769), (15, 9, 1, 0, 770), (19, 9, 2, 0, 771), (22, 9, 3, 0, 772), (50, 2, 3, 1, 378)],
  [(9, 10, 0, 0, 726), (15, 10, 1, 0, 727), (19, 10, 2, 0, 728), (23, 10, 3, 0, 729), (27, 10, 4, 0, 730), (31, 7, 10, 1, 558), (42, 10, 5, 0, 731), (46, 10, 8, 0, 734), (49, 10, 9, 0, 735), (52, 7, 8, 1, 554), (55, 10, 6, 0, 732), (58, 7, 9, 1, 556), (61, 10, 7, 0, 733), (69, 7, 7, 1, 553), (79, 3, 5, 1, 598), (96, 3, 8, 1, 602), (113, 3, 6, 1, 600), (159, 3, 9, 1, 604), (166, 3, 4, 1, 594), (173, 1, 3, 1, 708), (195, 1, 4, 1, 709), (214, 10, 11, 0, 737), (217, 10, 10, 0, 736)],
  [(9, 11, 0, 0, 897), (16, 11, 2, 0, 899), (25, 11, 1, 0, 898), (37, 11, 3, 0, 900), (56, 11, 4, 0, 901), (68, 11, 5, 0, 902), (77, 11, 6, 0, 903), (81, 11, 7, 0, 904), (107, 3, 13, 1, 614), (110, 11, 8, 0, 905)],
  [(7, 12, 0, 0, 2408), (13, 12, 2, 0, 2412), (17, 12, 3, 0, 2414), (20, 12, 4, 0, 2416), (23, 12, 7, 0, 2420), (26, 12, 8, 0, 2422), (29, 12, 9, 0, 2424), (32, 12, 10, 0, 2426), (35, 12, 1, 0, 2410), (45, 12, 5, 0, 2418), (51, 12, 6, 0, 2419), (54, 12, 11, 0, 2428)],
  [(7, 13, 2, 0, 2773), (13, 13, 3, 0, 2775), (16, 13, 4, 0, 2777), (20, 13, 5, 0, 2779), (23, 13, 6, 0, 2781), (26, 13, 7, 0, 2783), (38, 13, 1, 0, 2771)],
  [(1, 14, 2, 0, 2075), (7, 14, 1, 0, 2074), (11, 14, 0, 0, 2073), (24, 14, 3, 0, 2076), (27, 14, 4, 0, 2077), (34, 14, 5, 0, 2078), (129, 14, 6, 0, 2079), (132, 14, 12, 0, 2085), (135, 14, 7, 0, 2080), (138, 14, 8, 0, 2081), (141, 14, 9, 0, 2082), (144, 14, 13, 0, 2086), (175, 14, 10, 0, 2083), (182, 14, 11, 0, 2084), (187, 14, 16, 0, 2089), (190, 14, 15, 0, 2088), (206, 14, 14, 0, 2087), (219, 12, 1, 0, 2411), (222, 12, 0, 0, 2409), (233, 14, 17, 0, 2090), (236, 14, 22, 0, 2095), (239, 14, 23, 0, 2096), (242, 14, 26, 0, 2099), (245, 14, 27, 0, 2100), (248, 14, 30, 0, 2103), (251, 14, 34, 0, 2107), (254, 14, 37, 0, 2110), (257, 14, 39, 0, 2112), (260, 14, 40, 0, 2113), (263, 14, 18, 0, 2091), (314, 14, 33, 0, 2106), (320, 14, 24, 0, 2097), (323, 14, 25, 0, 2098), (326, 14, 29, 0, 2102), (329, 14, 28, 0, 2101), (344, 14, 21, 0, 2094), (347, 14, 19, 0, 2092), (350, 14, 20, 0, 2093), (362, 14, 36, 0, 2109), (365, 14, 35, 0, 2108), (370, 12, 8, 0, 2423), (373, 12, 9, 0, 2425), (379, 12, 10, 0, 2427), (385, 14, 38, 0, 2111), (397, 14, 31, 0, 2104), (425, 14, 32, 0, 2105), (450, 14, 41, 0, 2114), (453, 14, 64, 0, 2137), (456, 14, 45, 0, 2118), (459, 13, 1, 0, 2772), (462, 13, 2, 0, 2774), (465, 13, 4, 0, 2778), (472, 13, 11, 0, 2788), (475, 13, 12, 0, 2789), (481, 14, 43, 0, 2116), (485, 14, 42, 0, 2115), (493, 14, 51, 0, 2124), (496, 14, 48, 0, 2121), (499, 14, 49, 0, 2122), (502, 14, 59, 0, 2132), (505, 14, 54, 0, 2127), (514, 14, 46, 0, 2119), (531, 13, 0, 0, 2770), (533, 13, 8, 0, 2785), (534, 14, 47, 0, 2120), (537, 14, 44, 0, 2117), (546, 14, 50, 0, 2123), (558, 14, 63, 0, 2136), (561, 14, 66, 0, 2139), (568, 14, 52, 0, 2125), (572, 14, 53, 0, 2126), (578, 14, 56, 0, 2129), (581, 14, 68, 0, 2141), (584, 14, 60, 0, 2133), (587, 14, 62, 0, 2135), (590, 14, 61, 0, 2134), (593, 14, 67, 0, 2140), (596, 14, 55, 0, 2128), (599, 14, 57, 0, 2130), (602, 14, 58, 0, 2131), (605, 14, 65, 0, 2138), (611, 12, 2, 0, 2413), (617, 12, 3, 0, 2415), (620, 12, 4, 0, 2417), (627, 13, 5, 0, 2780), (689, 13, 9, 0, 2786), (691, 12, 7, 0, 2421), (694, 13, 10, 0, 2787), (719, 13, 3, 0, 2776), (722, 13, 6, 0, 2782), (725, 13, 7, 0, 2784), (752, 14, 69, 0, 2142), (790, 14, 70, 0, 2143), (808, 14, 72, 0, 2145), (811, 14, 73, 0, 2146), (815, 14, 71, 0, 2144), (851, 14, 74, 0, 2147), (854, 14, 75, 0, 2148), (863, 14, 76, 0, 2149)],
  [],
  [],
  [],
  [],
  [],
  [],
  [],
  []]
-- calls: pool entry, kind (0 virtual, 1 virtual of a nest mate, 2 static, 3 static of a nest mate, 4 constructor, 5 of a nest mate, 6 Object(), 7 arraycopy), method, nest host, place of the link word
def mt_k : List (List (Nat × Nat × Nat × Nat × Nat)) := [[(3, 6, 0, 0, 788), (38, 0, 228, 0, 1802), (42, 0, 243, 0, 1888), (45, 0, 244, 0, 1897), (49, 0, 245, 0, 1901), (52, 0, 246, 0, 1906), (55, 0, 247, 0, 1912), (58, 0, 248, 0, 1916), (61, 0, 249, 0, 1923), (66, 1, 251, 1, 1931), (71, 1, 148, 1, 1887), (77, 1, 252, 1, 1935), (80, 1, 132, 1, 1869), (84, 3, 134, 1, 1836), (88, 3, 47, 1, 1853), (91, 1, 136, 1, 1806), (94, 1, 138, 1, 1807), (97, 1, 140, 1, 1812), (100, 1, 135, 1, 1870), (105, 1, 178, 1, 1893), (108, 1, 183, 1, 1895), (114, 1, 152, 1, 1905), (119, 1, 156, 1, 1867), (123, 1, 158, 1, 1868), (126, 1, 153, 1, 1910), (129, 1, 213, 1, 1911), (133, 1, 232, 1, 1824), (136, 1, 233, 1, 1828), (139, 0, 236, 0, 1841), (144, 3, 16, 1, 1921), (148, 3, 17, 1, 1922), (152, 1, 250, 1, 1927), (158, 0, 229, 0, 1808), (162, 0, 238, 0, 1849), (165, 0, 240, 0, 1871), (168, 0, 234, 0, 1832), (171, 0, 230, 0, 1813), (174, 0, 4, 0, 1822), (179, 0, 6, 0, 1823), (183, 3, 193, 1, 1854), (189, 2, 237, 0, 1846), (194, 0, 235, 0, 1837), (198, 3, 137, 1, 1855), (202, 2, 239, 0, 1856), (206, 0, 231, 0, 1818), (228, 1, 168, 1, 1875), (231, 1, 241, 1, 1876), (234, 1, 242, 1, 1880), (239, 1, 181, 1, 1884), (244, 1, 182, 1, 1885)],
  [(3, 6, 0, 0, 703), (23, 0, 58, 0, 1051), (33, 1, 75, 1, 1124), (38, 1, 54, 1, 1136), (45, 1, 83, 1, 1155), (52, 0, 59, 0, 1055), (55, 0, 60, 0, 1059), (58, 0, 74, 0, 1118), (62, 1, 71, 1, 1103), (65, 1, 44, 1, 1122), (68, 1, 40, 1, 1087), (71, 0, 61, 0, 1063), (74, 2, 82, 0, 1152), (77, 0, 62, 0, 1067), (80, 0, 63, 0, 1071), (83, 2, 81, 0, 1149), (86, 0, 64, 0, 1075), (89, 0, 65, 0, 1079), (92, 0, 76, 0, 1128), (96, 0, 77, 0, 1132), (99, 0, 79, 0, 1141), (102, 0, 80, 0, 1145), (105, 0, 57, 0, 1123), (114, 0, 66, 0, 1083), (122, 0, 72, 0, 1108), (134, 0, 78, 0, 1137), (137, 1, 73, 1, 1112), (140, 1, 67, 1, 1088), (143, 3, 70, 1, 1100)],
  [(5, 6, 0, 0, 370), (65, 2, 139, 0, 1392), (69, 0, 149, 0, 1549), (76, 0, 143, 0, 1407), (80, 0, 146, 0, 1419), (84, 0, 144, 0, 1411), (87, 2, 145, 0, 1415), (91, 3, 137, 1, 1418), (95, 0, 157, 0, 1469), (99, 0, 142, 0, 1550), (102, 0, 206, 0, 1770), (106, 0, 168, 0, 1771), (109, 2, 184, 0, 1588), (112, 0, 185, 0, 1591), (115, 2, 186, 0, 1595), (121, 0, 140, 0, 1655), (124, 0, 156, 0, 1656), (128, 0, 158, 0, 1657), (131, 0, 183, 0, 1658), (135, 2, 258, 0, 1963), (139, 7, 0, 0, 1738)],
  [(3, 6, 0, 0, 589), (35, 0, 36, 0, 961), (41, 0, 40, 0, 977), (44, 0, 44, 0, 992), (47, 0, 39, 0, 973), (50, 0, 38, 0, 969), (54, 0, 37, 0, 965), (63, 3, 41, 1, 981), (67, 0, 42, 0, 984), (70, 3, 43, 1, 989), (73, 0, 45, 0, 999), (76, 0, 46, 0, 1005), (79, 0, 48, 0, 1012), (85, 3, 16, 1, 996), (89, 3, 17, 1, 997), (93, 1, 15, 1, 998), (116, 3, 47, 1, 1009), (120, 2, 49, 0, 1016), (123, 2, 50, 0, 1019)],
  [(5, 6, 0, 0, 819), (33, 5, 26, 1, 822), (82, 0, 127, 0, 1343), (88, 0, 128, 0, 1348), (92, 0, 161, 0, 1488), (95, 1, 189, 1, 1615), (98, 1, 217, 1, 1751), (101, 0, 225, 0, 1790), (105, 0, 226, 0, 1794), (108, 1, 227, 1, 1798), (111, 0, 253, 0, 1939), (114, 0, 266, 0, 1996), (118, 0, 267, 0, 2000), (127, 1, 141, 1, 1399), (130, 1, 88, 1, 1347), (133, 1, 132, 1, 1427), (137, 3, 134, 1, 1485), (141, 1, 135, 1, 1429), (146, 1, 153, 1, 1452), (153, 0, 150, 0, 1438), (161, 1, 142, 1, 1442), (165, 0, 129, 0, 1352), (168, 0, 130, 0, 1356), (172, 0, 147, 0, 1423), (175, 0, 151, 0, 1443), (178, 0, 154, 0, 1456), (181, 0, 159, 0, 1477), (184, 0, 160, 0, 1481), (187, 1, 131, 1, 1360), (190, 1, 152, 1, 1447), (193, 1, 140, 1, 1460), (196, 1, 155, 1, 1461), (200, 1, 156, 1, 1465), (204, 1, 158, 1, 1473), (211, 0, 162, 0, 1492), (214, 0, 166, 0, 1509), (217, 0, 172, 0, 1533), (220, 0, 175, 0, 1551), (223, 0, 176, 0, 1555), (226, 0, 177, 0, 1560), (229, 0, 180, 0, 1572), (232, 1, 188, 1, 1611), (235, 1, 163, 1, 1496), (238, 1, 165, 1, 1505), (241, 1, 168, 1, 1517), (244, 0, 167, 0, 1513), (247, 1, 169, 1, 1521), (251, 1, 171, 1, 1529), (253, 1, 173, 1, 1537), (257, 1, 174, 1, 1545), (263, 1, 178, 1, 1564), (266, 1, 179, 1, 1568), (272, 1, 181, 1, 1576), (275, 1, 182, 1, 1580), (278, 1, 183, 1, 1584), (282, 1, 148, 1, 1430), (286, 1, 136, 1, 1943), (288, 1, 138, 1, 1944), (291, 0, 254, 0, 1945), (295, 1, 264, 1, 1985), (298, 0, 265, 0, 1989), (301, 1, 149, 1, 1958), (304, 1, 220, 1, 1993), (307, 1, 206, 1, 1994), (310, 3, 137, 1, 1995), (314, 1, 241, 1, 1949), (317, 1, 255, 1, 1950), (320, 1, 256, 1, 1954), (323, 1, 257, 1, 1959), (327, 1, 260, 1, 1969), (330, 1, 261, 1, 1973), (333, 1, 263, 1, 1981)],
  [(5, 6, 0, 0, 436), (37, 0, 3, 0, 438), (49, 0, 4, 0, 443), (55, 0, 6, 0, 453), (59, 0, 15, 0, 491), (63, 3, 16, 1, 498), (67, 3, 17, 1, 501), (81, 0, 170, 0, 1525), (88, 3, 134, 1, 1541), (97, 3, 137, 1, 1542), (100, 1, 149, 1, 1543), (104, 1, 142, 1, 1544)],
  [(3, 6, 0, 0, 825), (25, 1, 131, 1, 1620), (31, 1, 148, 1, 1621), (35, 0, 190, 0, 1622), (39, 0, 191, 0, 1630), (42, 0, 192, 0, 1634), (45, 0, 194, 0, 1644), (48, 0, 196, 0, 1660), (51, 0, 197, 0, 1664), (54, 0, 198, 0, 1668), (57, 0, 199, 0, 1673), (60, 0, 201, 0, 1680), (63, 0, 203, 0, 1687), (67, 0, 204, 0, 1691), (70, 1, 132, 1, 1627), (74, 3, 134, 1, 1628), (78, 0, 207, 0, 1707), (82, 0, 209, 0, 1715), (85, 0, 211, 0, 1723), (89, 0, 212, 0, 1730), (92, 0, 214, 0, 1739), (95, 0, 218, 0, 1755), (99, 0, 221, 0, 1774), (102, 0, 222, 0, 1778), (105, 0, 223, 0, 1782), (108, 0, 224, 0, 1786), (111, 1, 135, 1, 1626), (116, 3, 47, 1, 1638), (119, 3, 193, 1, 1639), (123, 3, 16, 1, 1642), (127, 3, 17, 1, 1643), (133, 1, 152, 1, 1648), (136, 1, 140, 1, 1649), (139, 1, 178, 1, 1650), (142, 1, 195, 1, 1651), (150, 2, 200, 0, 1677), (156, 2, 202, 0, 1684), (159, 2, 215, 0, 1743), (164, 0, 216, 0, 1746), (169, 1, 136, 1, 1695), (171, 1, 138, 1, 1696), (174, 3, 205, 1, 1697), (178, 1, 206, 1, 1701), (181, 1, 156, 1, 1705), (185, 1, 158, 1, 1706), (188, 2, 208, 0, 1711), (192, 0, 210, 0, 1719), (197, 1, 174, 1, 1727), (201, 1, 183, 1, 1728), (205, 1, 141, 1, 1729), (209, 1, 213, 1, 1734), (212, 0, 219, 0, 1759), (215, 1, 181, 1, 1763), (220, 1, 182, 1, 1764), (223, 1, 168, 1, 1765), (226, 1, 220, 1, 1766), (229, 3, 137, 1, 1772), (232, 1, 179, 1, 1773)],
  [(3, 6, 0, 0, 542), (39, 0, 55, 0, 1038), (50, 0, 54, 0, 1116), (54, 0, 164, 0, 1500), (62, 0, 103, 0, 1241)],
  [(1, 6, 0, 0, 649), (63, 0, 69, 0, 1096), (67, 0, 95, 0, 1208), (71, 0, 96, 0, 1212), (75, 1, 68, 1, 1092), (79, 1, 124, 1, 1328), (83, 0, 125, 0, 1332), (86, 1, 88, 1, 1336), (89, 1, 83, 1, 1337)],
  [(3, 6, 0, 0, 768), (26, 0, 133, 0, 1368), (30, 0, 132, 0, 1364), (34, 0, 135, 0, 1375), (37, 3, 137, 1, 1384), (41, 0, 136, 0, 1380), (45, 1, 138, 1, 1388), (54, 1, 149, 1, 1434), (58, 1, 142, 1, 1403), (61, 1, 262, 1, 1977), (65, 3, 134, 1, 1372), (69, 3, 47, 1, 1379), (72, 1, 140, 1, 1395)],
  [(3, 6, 0, 0, 725), (37, 1, 34, 1, 953), (64, 1, 35, 1, 957), (72, 1, 71, 1, 1199), (76, 1, 44, 1, 1172), (82, 1, 123, 1, 1324), (85, 1, 118, 1, 1305), (89, 0, 52, 0, 1026), (93, 0, 53, 0, 1030), (99, 0, 85, 0, 1163), (103, 0, 51, 0, 1173), (107, 1, 75, 1, 1167), (110, 1, 86, 1, 1168), (116, 1, 54, 1, 1034), (119, 0, 56, 0, 1042), (122, 0, 89, 0, 1183), (125, 0, 91, 0, 1191), (128, 0, 97, 0, 1217), (131, 0, 93, 0, 1200), (134, 0, 105, 0, 1251), (137, 0, 108, 0, 1264), (140, 0, 109, 0, 1268), (143, 0, 112, 0, 1280), (146, 0, 113, 0, 1285), (149, 0, 114, 0, 1289), (153, 0, 115, 0, 1293), (156, 0, 117, 0, 1301), (162, 1, 94, 1, 1204), (165, 1, 67, 1, 1216), (169, 1, 57, 1, 1047), (176, 1, 119, 1, 1309), (179, 1, 120, 1, 1313), (182, 0, 110, 0, 1272), (185, 2, 121, 0, 1317), (188, 0, 111, 0, 1276), (192, 1, 40, 1, 1046), (198, 1, 88, 1, 1179), (201, 1, 83, 1, 1174), (204, 1, 69, 1, 1284), (210, 1, 73, 1, 1246), (220, 0, 92, 0, 1195), (223, 1, 116, 1, 1297), (226, 0, 84, 0, 1159), (229, 0, 87, 0, 1175), (232, 0, 90, 0, 1187), (236, 1, 98, 1, 1221), (239, 1, 99, 1, 1225), (242, 0, 100, 0, 1229), (245, 1, 104, 1, 1247), (248, 1, 101, 1, 1233), (251, 1, 102, 1, 1237), (254, 0, 106, 0, 1255), (257, 1, 68, 1, 1263), (260, 0, 107, 0, 1259)],
  [(3, 6, 0, 0, 362), (15, 5, 1, 1, 367), (22, 5, 2, 1, 433), (31, 5, 18, 1, 539), (34, 5, 19, 1, 586), (43, 5, 20, 1, 646), (50, 5, 21, 1, 700), (53, 5, 22, 1, 722), (62, 5, 23, 1, 765), (65, 5, 24, 1, 785), (74, 5, 25, 1, 816), (85, 0, 28, 0, 929), (89, 1, 31, 1, 941), (92, 1, 32, 1, 945), (95, 1, 33, 1, 949), (99, 1, 51, 1, 1022), (103, 1, 122, 1, 1320), (113, 1, 126, 1, 1338), (117, 1, 268, 1, 2004), (121, 1, 271, 1, 2016), (124, 1, 272, 1, 2020), (127, 1, 251, 1, 2028), (130, 1, 274, 1, 2029), (133, 1, 275, 1, 2033), (136, 1, 276, 1, 2037), (139, 0, 278, 0, 2045), (144, 1, 173, 1, 2054), (148, 1, 169, 1, 2059), (152, 2, 134, 0, 1700), (158, 1, 171, 1, 2061), (163, 1, 279, 1, 2049)],
  [(1, 6, 0, 0, 2407), (39, 2, 296, 0, 2473), (48, 2, 186, 0, 2542)],
  [(1, 6, 0, 0, 2769), (29, 2, 296, 0, 2825), (35, 2, 186, 0, 2826), (42, 0, 376, 0, 2821), (46, 0, 358, 0, 2827), (50, 0, 378, 0, 2832), (53, 0, 377, 0, 3009)],
  [(15, 2, 295, 0, 2379), (21, 2, 296, 0, 2387), (31, 2, 186, 0, 2395), (37, 7, 0, 0, 2396), (43, 0, 4, 0, 2346), (49, 0, 6, 0, 2347), (55, 0, 357, 0, 2689), (79, 2, 292, 0, 2343), (147, 0, 288, 0, 2329), (151, 0, 293, 0, 2371), (155, 2, 289, 0, 2333), (159, 2, 290, 0, 2336), (162, 2, 291, 0, 2339), (166, 0, 294, 0, 2375), (178, 2, 297, 0, 2400), (193, 2, 300, 0, 2458), (199, 0, 314, 0, 2514), (202, 0, 299, 0, 2454), (210, 0, 303, 0, 2469), (216, 0, 302, 0, 2465), (225, 0, 287, 0, 2325), (229, 5, 298, 2, 2404), (266, 0, 301, 0, 2461), (269, 0, 322, 0, 2547), (270, 0, 323, 0, 2551), (273, 0, 332, 0, 2587), (276, 0, 335, 0, 2599), (279, 0, 304, 0, 2474), (282, 0, 333, 0, 2591), (285, 0, 342, 0, 2627), (289, 0, 345, 0, 2639), (292, 0, 336, 0, 2603), (296, 0, 346, 0, 2643), (299, 0, 347, 0, 2648), (302, 0, 306, 0, 2482), (305, 0, 325, 0, 2559), (309, 0, 334, 0, 2595), (312, 0, 309, 0, 2494), (317, 0, 326, 0, 2563), (332, 0, 343, 0, 2631), (335, 0, 329, 0, 2575), (338, 0, 344, 0, 2635), (341, 0, 317, 0, 2526), (353, 0, 319, 0, 2534), (356, 0, 339, 0, 2615), (359, 0, 340, 0, 2619), (368, 0, 337, 0, 2607), (376, 0, 338, 0, 2611), (382, 2, 187, 0, 2647), (388, 0, 341, 0, 2623), (391, 0, 318, 0, 2530), (394, 0, 307, 0, 2486), (400, 0, 308, 0, 2490), (403, 0, 310, 0, 2498), (406, 0, 311, 0, 2502), (409, 0, 312, 0, 2506), (412, 0, 313, 0, 2510), (415, 0, 315, 0, 2518), (418, 0, 316, 0, 2522), (421, 0, 324, 0, 2555), (428, 0, 320, 0, 2538), (432, 0, 321, 0, 2543), (436, 0, 305, 0, 2478), (439, 0, 328, 0, 2571), (442, 0, 330, 0, 2579), (444, 0, 331, 0, 2583), (447, 0, 327, 0, 2567), (468, 0, 369, 0, 2745), (478, 2, 368, 0, 2742), (489, 0, 370, 0, 2749), (508, 0, 367, 0, 2738), (511, 0, 371, 0, 2753), (517, 0, 372, 0, 2757), (521, 0, 373, 0, 2761), (524, 0, 365, 0, 2730), (527, 0, 366, 0, 2734), (530, 5, 374, 2, 2766), (540, 2, 394, 0, 2905), (543, 0, 395, 0, 2908), (549, 0, 352, 0, 2668), (552, 2, 360, 0, 2710), (554, 0, 361, 0, 2714), (564, 0, 349, 0, 2656), (575, 0, 350, 0, 2660), (608, 0, 351, 0, 2664), (613, 0, 353, 0, 2672), (621, 0, 354, 0, 2676), (624, 0, 359, 0, 2706), (630, 0, 362, 0, 2718), (634, 0, 379, 0, 2836), (637, 0, 400, 0, 2928), (640, 0, 401, 0, 2932), (647, 0, 409, 0, 2969), (650, 0, 412, 0, 2981), (653, 0, 413, 0, 2985), (656, 0, 414, 0, 2989), (659, 0, 415, 0, 2993), (663, 0, 416, 0, 2997), (666, 0, 417, 0, 3001), (669, 0, 419, 0, 3010), (672, 0, 391, 0, 2893), (675, 0, 420, 0, 3014), (680, 2, 284, 0, 2313), (683, 0, 363, 0, 2722), (686, 0, 364, 0, 2726), (696, 0, 355, 0, 2680), (699, 0, 358, 0, 2702), (703, 0, 356, 0, 2684), (706, 2, 215, 0, 2948), (709, 2, 389, 0, 2884), (712, 0, 402, 0, 2936), (716, 0, 403, 0, 2940), (728, 0, 404, 0, 2944), (731, 0, 405, 0, 2949), (734, 0, 406, 0, 2953), (737, 0, 407, 0, 2957), (740, 2, 408, 0, 2961), (746, 2, 202, 0, 2966), (749, 2, 200, 0, 2968), (755, 2, 386, 0, 2864), (759, 0, 375, 0, 2817), (762, 0, 411, 0, 2977), (764, 0, 399, 0, 2924), (768, 0, 410, 0, 2973), (771, 0, 377, 0, 2828), (774, 0, 418, 0, 3005), (777, 0, 398, 0, 2920), (780, 0, 380, 0, 2840), (783, 0, 396, 0, 2912), (787, 0, 397, 0, 2916), (793, 0, 381, 0, 2844), (795, 0, 388, 0, 2879), (797, 0, 390, 0, 2889), (799, 0, 392, 0, 2897), (801, 0, 393, 0, 2901), (805, 0, 385, 0, 2860), (818, 0, 382, 0, 2848), (821, 0, 384, 0, 2856), (825, 0, 387, 0, 2867), (831, 0, 383, 0, 2852), (848, 6, 0, 0, 2068), (859, 0, 286, 0, 2321), (866, 0, 348, 0, 2652), (873, 0, 425, 0, 3036)],
  [(9, 4, 0, 0, 359), (12, 4, 281, 0, 2065), (13, 0, 27, 0, 925), (17, 0, 282, 0, 2305), (18, 0, 29, 0, 933), (22, 0, 283, 0, 2309), (23, 0, 30, 0, 937), (26, 0, 285, 0, 2316), (27, 0, 269, 0, 2008), (31, 0, 421, 0, 3019), (32, 0, 270, 0, 2012), (35, 0, 422, 0, 3023), (36, 0, 273, 0, 2024), (39, 0, 423, 0, 3027), (42, 0, 277, 0, 2041), (46, 0, 424, 0, 3032), (47, 0, 280, 0, 2055), (51, 0, 426, 0, 3041)],
  [(335, 0, 5, 0, 447), (492, 0, 7, 0, 457), (495, 2, 8, 0, 461), (498, 2, 11, 0, 472), (1059, 2, 10, 0, 469)],
  [(9, 2, 9, 0, 464)],
  [],
  [(48, 2, 13, 0, 478), (67, 2, 12, 0, 475), (71, 2, 14, 0, 482), (414, 2, 9, 0, 481)],
  [(13, 2, 259, 0, 1966), (150, 7, 0, 0, 1608), (304, 2, 187, 0, 1605)],
  [],
  [(302, 2, 215, 0, 2888)]]
-- new: pool entry, class, places of classLink, instantiable, initialized
def mt_n : List (List (Nat × Nat × Nat × Nat × Nat)) := [[],
  [],
  [],
  [],
  [(31, 6, 820, 821, 348)],
  [],
  [],
  [],
  [],
  [],
  [],
  [(13, 2, 365, 366, 334), (20, 5, 431, 432, 335), (29, 7, 537, 538, 340), (32, 3, 584, 585, 341), (41, 8, 644, 645, 342), (46, 10, 696, 697, 343), (48, 1, 698, 699, 344), (60, 9, 763, 764, 345), (63, 0, 783, 784, 346), (72, 4, 814, 815, 347)],
  [],
  [],
  [(211, 12, 2071, 2403, 355), (460, 13, 2069, 2765, 356)],
  [(7, 11, 357, 358, 333), (10, 14, 2063, 2064, 349)],
  [],
  [],
  [],
  [],
  [],
  [],
  []]
-- anewarray: pool entry, element type, places of classLink, arrayOver
def mt_a : List (List (Nat × Nat × Nat × Nat)) := [[],
  [],
  [(36, 4, 371, 372)],
  [],
  [],
  [],
  [],
  [],
  [],
  [],
  [],
  [],
  [],
  [],
  [(211, 6, 2071, 2072), (460, 5, 2069, 2070)],
  [],
  [],
  [],
  [],
  [],
  [(320, 4, 1604, 372)],
  [],
  []]
-- whole constants: pool entry, value, place
def mt_ci : List (List (Nat × Int32 × Nat)) := [[],
  [],
  [],
  [],
  [(81, (1000000000), 1342)],
  [],
  [],
  [(11, (40960), 543)],
  [],
  [],
  [],
  [],
  [],
  [],
  [],
  [],
  [],
  [],
  [],
  [],
  [],
  [],
  []]
def mt_cj : List (List (Nat × Int64 × Nat)) := [[(64, (2305843009213693952), 1894), (103, (300), 1892), (112, (4611686018427387904), 1896), (117, (1152921504606846976), 1886), (142, (3458764513820540928), 1920), (187, (10), 1845)],
  [(116, (2305843009213693952), 1107), (132, (1152921504606846976), 1117)],
  [],
  [(83, (3458764513820540928), 988), (106, (9223372036854775807), 1003), (108, (10), 1004)],
  [(144, (2305843009213693952), 1451), (207, (10), 1486), (209, (99), 1487), (261, (5764607523034234880), 1559), (270, (4611686018427387904), 1428)],
  [(47, (3458764513820540928), 442), (71, (31), 495), (73, (17), 496), (75, (1023), 497)],
  [(23, (2305843009213693952), 1619), (114, (-9223372036854775808), 1629), (146, (4611686018427387904), 1659), (148, (-1), 1672), (167, (72057594037927935), 1750), (195, (3458764513820540928), 1714)],
  [(57, (1152921504606846976), 1504)],
  [],
  [],
  [(208, (1152921504606846976), 1245)],
  [(142, (2305843009213693952), 2053), (156, (4611686018427387905), 2060), (161, (4611686018427387904), 2062), (166, (72057594037927936), 504), (168, (4), 1387)],
  [],
  [],
  [(169, (922337203685477580), 2397), (171, (10), 2398), (173, (48), 2399), (185, (255), 2713), (645, (-9223372036854775808), 2967), (678, (99), 3018), (744, (-1), 2965), (803, (300), 2883), (857, (20000), 2320), (869, (9), 3031), (871, (12), 3040), (876, (4611686018427387905), 3045), (878, (4611686018427387904), 3046)],
  [(40, (4294967295), 3047)],
  [],
  [],
  [],
  [],
  [],
  [(138, (4294967295), 2964)],
  [(168, (-9223372036854775808), 2887)]]
-- texts: pool entry, number of the text, place
def mt_cs : List (List (Nat × Nat × Nat)) := [[(210, 11, 1865), (212, 5, 1859), (214, 6, 1860), (216, 7, 1861), (218, 8, 1862), (220, 9, 1863), (222, 10, 1864), (224, 4, 1817), (226, 12, 1866)],
  [],
  [],
  [],
  [],
  [(35, 0, 437), (41, 1, 505), (43, 2, 506), (45, 3, 507)],
  [],
  [],
  [],
  [],
  [],
  [],
  [],
  [],
  [(53, 35, 2688), (59, 36, 2693), (61, 37, 2694), (63, 38, 2695), (65, 39, 2696), (67, 40, 2697), (69, 41, 2698), (71, 42, 2699), (73, 43, 2700), (75, 44, 2701), (77, 13, 2342), (83, 14, 2348), (85, 15, 2349), (87, 16, 2350), (89, 17, 2351), (91, 18, 2352), (93, 19, 2353), (95, 8, 2354), (97, 20, 2355), (99, 21, 2356), (101, 22, 2357), (103, 23, 2358), (105, 24, 2359), (107, 25, 2360), (109, 26, 2361), (111, 27, 2362), (113, 28, 2363), (115, 29, 2364), (117, 30, 2365), (119, 31, 2366), (121, 32, 2367), (123, 11, 2368), (125, 33, 2369), (127, 34, 2370), (829, 4, 2871), (834, 12, 2872), (836, 45, 2873), (838, 46, 2874), (840, 47, 2875), (842, 48, 2876), (844, 49, 2877), (846, 50, 2878)],
  [],
  [],
  [],
  [],
  [],
  [],
  [],
  []]
def mt_st : List String := ["if elif else while for in def class return break continue ", "pass del global try except raise and or not is None True False ", "print len range push pop keys text refs alive collect ", "init ", ", ", "list", "dict", "function", "class", "instance", "method", "None", ": ", "if", "elif", "else", "while", "for", "in", "def", "return", "break", "continue", "pass", "del", "global", "try", "except", "raise", "and", "or", "not", "is", "True", "False", "print", "len", "range", "push", "pop", "keys", "text", "refs", "alive", "collect", "<list", "<dict", "<function", "<class", "<instance", "<method"]
/-- the texts, by their bytes -/
def mt_sb : List (List Int32) := [[105, 102, 32, 101, 108, 105, 102, 32, 101, 108, 115, 101, 32, 119, 104, 105, 108, 101, 32, 102, 111, 114, 32, 105, 110, 32, 100, 101, 102, 32, 99, 108, 97, 115, 115, 32, 114, 101, 116, 117, 114, 110, 32, 98, 114, 101, 97, 107, 32, 99, 111, 110, 116, 105, 110, 117, 101, 32],
  [112, 97, 115, 115, 32, 100, 101, 108, 32, 103, 108, 111, 98, 97, 108, 32, 116, 114, 121, 32, 101, 120, 99, 101, 112, 116, 32, 114, 97, 105, 115, 101, 32, 97, 110, 100, 32, 111, 114, 32, 110, 111, 116, 32, 105, 115, 32, 78, 111, 110, 101, 32, 84, 114, 117, 101, 32, 70, 97, 108, 115, 101, 32],
  [112, 114, 105, 110, 116, 32, 108, 101, 110, 32, 114, 97, 110, 103, 101, 32, 112, 117, 115, 104, 32, 112, 111, 112, 32, 107, 101, 121, 115, 32, 116, 101, 120, 116, 32, 114, 101, 102, 115, 32, 97, 108, 105, 118, 101, 32, 99, 111, 108, 108, 101, 99, 116, 32],
  [105, 110, 105, 116, 32],
  [44, 32],
  [108, 105, 115, 116],
  [100, 105, 99, 116],
  [102, 117, 110, 99, 116, 105, 111, 110],
  [99, 108, 97, 115, 115],
  [105, 110, 115, 116, 97, 110, 99, 101],
  [109, 101, 116, 104, 111, 100],
  [78, 111, 110, 101],
  [58, 32],
  [105, 102],
  [101, 108, 105, 102],
  [101, 108, 115, 101],
  [119, 104, 105, 108, 101],
  [102, 111, 114],
  [105, 110],
  [100, 101, 102],
  [114, 101, 116, 117, 114, 110],
  [98, 114, 101, 97, 107],
  [99, 111, 110, 116, 105, 110, 117, 101],
  [112, 97, 115, 115],
  [100, 101, 108],
  [103, 108, 111, 98, 97, 108],
  [116, 114, 121],
  [101, 120, 99, 101, 112, 116],
  [114, 97, 105, 115, 101],
  [97, 110, 100],
  [111, 114],
  [110, 111, 116],
  [105, 115],
  [84, 114, 117, 101],
  [70, 97, 108, 115, 101],
  [112, 114, 105, 110, 116],
  [108, 101, 110],
  [114, 97, 110, 103, 101],
  [112, 117, 115, 104],
  [112, 111, 112],
  [107, 101, 121, 115],
  [116, 101, 120, 116],
  [114, 101, 102, 115],
  [97, 108, 105, 118, 101],
  [99, 111, 108, 108, 101, 99, 116],
  [60, 108, 105, 115, 116],
  [60, 100, 105, 99, 116],
  [60, 102, 117, 110, 99, 116, 105, 111, 110],
  [60, 99, 108, 97, 115, 115],
  [60, 105, 110, 115, 116, 97, 110, 99, 101],
  [60, 109, 101, 116, 104, 111, 100]]
/-- the number of String among the owners -/
def mt_so : Nat := 16
-- a text's fields: pool entry, which (0 value, 1 coder), place
def mt_xs : List (List (Nat × Nat × Nat)) := [[],
  [],
  [],
  [],
  [],
  [],
  [],
  [],
  [],
  [],
  [],
  [],
  [],
  [],
  [],
  [],
  [(9, 0, 3048), (15, 1, 3049)],
  [],
  [],
  [],
  [],
  [],
  []]
-- statics of the JDK: pool entry, value, which, place
def mt_gs : List (List (Nat × Value × Nat × Nat)) := [[],
  [],
  [],
  [],
  [],
  [],
  [],
  [],
  [],
  [],
  [],
  [],
  [],
  [],
  [],
  [],
  [(38, .int 1, 0, 451), (1053, .retAddr 100001, 1, 467)],
  [],
  [],
  [],
  [],
  [],
  []]
def sm_T (ci : Nat) : vw_C := mt_cl.getD ci ("", fun _ => ("", "", "", false), 0)
def sm_ty (ci k : Nat) : FieldType := (mt_ty.getD ci (fun _ => .int)) k
def sm_el (t : Nat) : FieldType := mt_el.getD t .int
def sm_on (o : Nat) : String := mt_ow.getD o ""
def sm_ho (h : Nat) : String := mt_ho.getD (h - 1) ""
def sm_m0 : mt_M := (⟨"", "", ""⟩, ⟨#[]⟩, 0, none, 0, 0, false, 0, 0, 0, 0)
/-- the law's own method bears the number 1000 -/
def mt_law : mt_M := (x, code, maxLocals, ret, 15, 1, true, 0, 0, 0, 0)
def sm_m (j : Nat) : mt_M := if j = 1000 then mt_law else mt_m.getD j sm_m0
def sm_y (j : Nat) : MethodName := (sm_m j).1
def sm_cc (j : Nat) : ByteArray := (sm_m j).2.1
def sm_ml (j : Nat) : Nat := (sm_m j).2.2.1
def sm_rt (j : Nat) : Option FieldType := (sm_m j).2.2.2.1
def sm_ow (j : Nat) : Nat := (sm_m j).2.2.2.2.1
def sm_np (j : Nat) : Nat := (sm_m j).2.2.2.2.2.1
def sm_is (j : Nat) : Bool := (sm_m j).2.2.2.2.2.2.1
def sm_pC (j : Nat) : Nat := (sm_m j).2.2.2.2.2.2.2.1
def sm_pI (j : Nat) : Nat := (sm_m j).2.2.2.2.2.2.2.2.1
def sm_pS (j : Nat) : Nat := (sm_m j).2.2.2.2.2.2.2.2.2.1
def sm_pN (j : Nat) : Nat := (sm_m j).2.2.2.2.2.2.2.2.2.2
