/-! ===== BEGIN printed: names, fields, word lists, decode rows ===== -/
def RX0 : String := "SelfEndingCodes$BitRow"
def TX0 : u_T := fun k => match k with
  | 0 => ("SelfEndingCodes$BitRow", "words", "[J", true)
  | 1 => ("SelfEndingCodes$BitRow", "end", "I", false)
  | 2 => ("SelfEndingCodes$BitRow", "place", "I", false)
  | _ => ("SelfEndingCodes$BitRow", "cursor", "I", false)
def tyX0 : Nat → FieldType := fun k => match k with
  | 0 => .array .long
  | 1 => .int
  | 2 => .int
  | _ => .int
abbrev wsX00 : List Cond := u_ws RX0 TX0 4
theorem nmX0 : ∀ a, a < 4 → ∀ b, b < 4 → a ≠ b → (TX0 a).2.1 ≠ (TX0 b).2.1 := by decide +kernel
theorem tyX0_ok : ∀ k, k < 4 → parseFieldDescriptor (TX0 k).2.2.1 = some (tyX0 k) := by decide +kernel
abbrev cX0_init : ByteArray := prog_2_method_1_code
def yX0_init : MethodName := ⟨RX0, "<init>", "()V"⟩
abbrev cX0_room : ByteArray := prog_2_method_2_code
def yX0_room : MethodName := ⟨RX0, "room", "()I"⟩
abbrev cX0_makeEmpty : ByteArray := prog_2_method_3_code
def yX0_makeEmpty : MethodName := ⟨RX0, "makeEmpty", "()V"⟩
abbrev cX0_bitAt : ByteArray := prog_2_method_4_code
def yX0_bitAt : MethodName := ⟨RX0, "bitAt", "(J)I"⟩
abbrev cX0_setOne : ByteArray := prog_2_method_5_code
def yX0_setOne : MethodName := ⟨RX0, "setOne", "(I)V"⟩
abbrev cX0_writeBits : ByteArray := prog_2_method_6_code
def yX0_writeBits : MethodName := ⟨RX0, "writeBits", "(IJI)V"⟩
abbrev cX0_appendBits : ByteArray := prog_2_method_7_code
def yX0_appendBits : MethodName := ⟨RX0, "appendBits", "(JI)V"⟩
abbrev cX0_appendOnesAndZero : ByteArray := prog_2_method_8_code
def yX0_appendOnesAndZero : MethodName := ⟨RX0, "appendOnesAndZero", "(J)V"⟩
abbrev cX0_readBit : ByteArray := prog_2_method_9_code
def yX0_readBit : MethodName := ⟨RX0, "readBit", "()I"⟩
abbrev cX0_readBits : ByteArray := prog_2_method_10_code
def yX0_readBits : MethodName := ⟨RX0, "readBits", "(JI)J"⟩
abbrev cX0_readOnesAndZero : ByteArray := prog_2_method_11_code
def yX0_readOnesAndZero : MethodName := ⟨RX0, "readOnesAndZero", "()I"⟩
def RX1 : String := "SelfEndingCodes"
def TX1 : u_T := fun k => match k with
  | 0 => ("SelfEndingCodes", "row", "LSelfEndingCodes$BitRow;", true)
  | 1 => ("SelfEndingCodes", "list", "[J", true)
  | 2 => ("SelfEndingCodes", "fibonacci", "[J", true)
  | _ => ("SelfEndingCodes", "listed", "I", false)
def tyX1 : Nat → FieldType := fun k => match k with
  | 0 => .object "SelfEndingCodes$BitRow"
  | 1 => .array .long
  | 2 => .array .long
  | _ => .int
abbrev wsX10 : List Cond := u_ws RX1 TX1 4
theorem nmX1 : ∀ a, a < 4 → ∀ b, b < 4 → a ≠ b → (TX1 a).2.1 ≠ (TX1 b).2.1 := by decide +kernel
theorem tyX1_ok : ∀ k, k < 4 → parseFieldDescriptor (TX1 k).2.2.1 = some (tyX1 k) := by decide +kernel
abbrev cX1_init : ByteArray := prog_1_method_1_code
def yX1_init : MethodName := ⟨RX1, "<init>", "()V"⟩
abbrev cX1_length : ByteArray := prog_1_method_2_code
def yX1_length : MethodName := ⟨RX1, "length", "(IIJ)J"⟩
abbrev cX1_put : ByteArray := prog_1_method_3_code
def yX1_put : MethodName := ⟨RX1, "put", "(IIJ)I"⟩
abbrev cX1_take : ByteArray := prog_1_method_4_code
def yX1_take : MethodName := ⟨RX1, "take", "(II)J"⟩
abbrev cX1_push : ByteArray := prog_1_method_5_code
def yX1_push : MethodName := ⟨RX1, "push", "(JI)I"⟩
abbrev cX1_bits : ByteArray := prog_1_method_6_code
def yX1_bits : MethodName := ⟨RX1, "bits", "(I)J"⟩
abbrev cX1_size : ByteArray := prog_1_method_7_code
def yX1_size : MethodName := ⟨RX1, "size", "()I"⟩
abbrev cX1_place : ByteArray := prog_1_method_8_code
def yX1_place : MethodName := ⟨RX1, "place", "()I"⟩
abbrev cX1_seek : ByteArray := prog_1_method_9_code
def yX1_seek : MethodName := ⟨RX1, "seek", "(I)V"⟩
abbrev cX1_wipe : ByteArray := prog_1_method_10_code
def yX1_wipe : MethodName := ⟨RX1, "wipe", "()I"⟩
abbrev cX1_add : ByteArray := prog_1_method_11_code
def yX1_add : MethodName := ⟨RX1, "add", "(J)I"⟩
abbrev cX1_get : ByteArray := prog_1_method_12_code
def yX1_get : MethodName := ⟨RX1, "get", "(I)J"⟩
abbrev cX1_clear : ByteArray := prog_1_method_13_code
def yX1_clear : MethodName := ⟨RX1, "clear", "()I"⟩
abbrev cX1_total : ByteArray := prog_1_method_14_code
def yX1_total : MethodName := ⟨RX1, "total", "(II)J"⟩
abbrev cX1_best : ByteArray := prog_1_method_15_code
def yX1_best : MethodName := ⟨RX1, "best", "(II)I"⟩
abbrev cX1_putAll : ByteArray := prog_1_method_16_code
def yX1_putAll : MethodName := ⟨RX1, "putAll", "(II)I"⟩
abbrev cX1_takeAll : ByteArray := prog_1_method_17_code
def yX1_takeAll : MethodName := ⟨RX1, "takeAll", "(II)I"⟩
abbrev cX1_count : ByteArray := prog_1_method_18_code
def yX1_count : MethodName := ⟨RX1, "count", "(III)J"⟩
abbrev cX1_first : ByteArray := prog_1_method_19_code
def yX1_first : MethodName := ⟨RX1, "first", "(III)J"⟩
abbrev cX1_begun : ByteArray := prog_1_method_20_code
def yX1_begun : MethodName := ⟨RX1, "begun", "(III)J"⟩
abbrev cX1_fold : ByteArray := prog_1_method_21_code
def yX1_fold : MethodName := ⟨RX1, "fold", "(J)J"⟩
abbrev cX1_unfold : ByteArray := prog_1_method_22_code
def yX1_unfold : MethodName := ⟨RX1, "unfold", "(J)J"⟩
abbrev cX1_leastParameter : ByteArray := prog_1_method_23_code
def yX1_leastParameter : MethodName := ⟨RX1, "leastParameter", "(I)I"⟩
abbrev cX1_greatestParameter : ByteArray := prog_1_method_24_code
def yX1_greatestParameter : MethodName := ⟨RX1, "greatestParameter", "(I)I"⟩
abbrev cX1_isCode : ByteArray := prog_1_method_25_code
def yX1_isCode : MethodName := ⟨RX1, "isCode", "(II)Z"⟩
abbrev cX1_requireCode : ByteArray := prog_1_method_26_code
def yX1_requireCode : MethodName := ⟨RX1, "requireCode", "(II)V"⟩
abbrev cX1_requireNumber : ByteArray := prog_1_method_27_code
def yX1_requireNumber : MethodName := ⟨RX1, "requireNumber", "(J)V"⟩
abbrev cX1_requireLength : ByteArray := prog_1_method_28_code
def yX1_requireLength : MethodName := ⟨RX1, "requireLength", "(II)V"⟩
abbrev cX1_codewordLength : ByteArray := prog_1_method_29_code
def yX1_codewordLength : MethodName := ⟨RX1, "codewordLength", "(IIJ)J"⟩
abbrev cX1_bitLength : ByteArray := prog_1_method_30_code
def yX1_bitLength : MethodName := ⟨RX1, "bitLength", "(J)I"⟩
abbrev cX1_gammaLength : ByteArray := prog_1_method_31_code
def yX1_gammaLength : MethodName := ⟨RX1, "gammaLength", "(J)I"⟩
abbrev cX1_omegaLength : ByteArray := prog_1_method_32_code
def yX1_omegaLength : MethodName := ⟨RX1, "omegaLength", "(J)I"⟩
abbrev cX1_fibonacciLength : ByteArray := prog_1_method_33_code
def yX1_fibonacciLength : MethodName := ⟨RX1, "fibonacciLength", "(J)I"⟩
abbrev cX1_golombLength : ByteArray := prog_1_method_34_code
def yX1_golombLength : MethodName := ⟨RX1, "golombLength", "(IJ)J"⟩
abbrev cX1_golombWidth : ByteArray := prog_1_method_35_code
def yX1_golombWidth : MethodName := ⟨RX1, "golombWidth", "(I)I"⟩
abbrev cX1_golombShortRests : ByteArray := prog_1_method_36_code
def yX1_golombShortRests : MethodName := ⟨RX1, "golombShortRests", "(II)J"⟩
abbrev cX1_groupsOf : ByteArray := prog_1_method_37_code
def yX1_groupsOf : MethodName := ⟨RX1, "groupsOf", "(IJ)I"⟩
abbrev cX1_listLength : ByteArray := prog_1_method_38_code
def yX1_listLength : MethodName := ⟨RX1, "listLength", "(II)J"⟩
abbrev cX1_leastReaching : ByteArray := prog_1_method_39_code
def yX1_leastReaching : MethodName := ⟨RX1, "leastReaching", "(III)J"⟩
abbrev cX1_appendIfRoom : ByteArray := prog_1_method_40_code
def yX1_appendIfRoom : MethodName := ⟨RX1, "appendIfRoom", "(IIJ)Z"⟩
abbrev cX1_appendCodeword : ByteArray := prog_1_method_41_code
def yX1_appendCodeword : MethodName := ⟨RX1, "appendCodeword", "(IIJ)V"⟩
abbrev cX1_appendGamma : ByteArray := prog_1_method_42_code
def yX1_appendGamma : MethodName := ⟨RX1, "appendGamma", "(J)V"⟩
abbrev cX1_appendOmega : ByteArray := prog_1_method_43_code
def yX1_appendOmega : MethodName := ⟨RX1, "appendOmega", "(J)V"⟩
abbrev cX1_appendFibonacci : ByteArray := prog_1_method_44_code
def yX1_appendFibonacci : MethodName := ⟨RX1, "appendFibonacci", "(J)V"⟩
abbrev cX1_appendGolomb : ByteArray := prog_1_method_45_code
def yX1_appendGolomb : MethodName := ⟨RX1, "appendGolomb", "(IJ)V"⟩
abbrev cX1_appendGroups : ByteArray := prog_1_method_46_code
def yX1_appendGroups : MethodName := ⟨RX1, "appendGroups", "(IJ)V"⟩
abbrev cX1_readNext : ByteArray := prog_1_method_47_code
def yX1_readNext : MethodName := ⟨RX1, "readNext", "(II)J"⟩
abbrev cX1_readCodeword : ByteArray := prog_1_method_48_code
def yX1_readCodeword : MethodName := ⟨RX1, "readCodeword", "(II)J"⟩
abbrev cX1_numberOrNone : ByteArray := prog_1_method_49_code
def yX1_numberOrNone : MethodName := ⟨RX1, "numberOrNone", "(J)J"⟩
abbrev cX1_readGamma : ByteArray := prog_1_method_50_code
def yX1_readGamma : MethodName := ⟨RX1, "readGamma", "()J"⟩
abbrev cX1_readDelta : ByteArray := prog_1_method_51_code
def yX1_readDelta : MethodName := ⟨RX1, "readDelta", "()J"⟩
abbrev cX1_readOmega : ByteArray := prog_1_method_52_code
def yX1_readOmega : MethodName := ⟨RX1, "readOmega", "()J"⟩
abbrev cX1_readFibonacci : ByteArray := prog_1_method_53_code
def yX1_readFibonacci : MethodName := ⟨RX1, "readFibonacci", "()J"⟩
abbrev cX1_readGolomb : ByteArray := prog_1_method_54_code
def yX1_readGolomb : MethodName := ⟨RX1, "readGolomb", "(I)J"⟩
abbrev cX1_readExpGolomb : ByteArray := prog_1_method_55_code
def yX1_readExpGolomb : MethodName := ⟨RX1, "readExpGolomb", "(I)J"⟩
abbrev cX1_readGroups : ByteArray := prog_1_method_56_code
def yX1_readGroups : MethodName := ⟨RX1, "readGroups", "(I)J"⟩
def RX2 : String := "SelfEndingCodesModel"
def TX2 : u_T := fun k => match k with
  | 0 => ("SelfEndingCodesModel", "thrown", "I", false)
  | 1 => ("SelfEndingCodesModel", "row", "[I", true)
  | 2 => ("SelfEndingCodesModel", "many", "I", false)
  | 3 => ("SelfEndingCodesModel", "at", "I", false)
  | 4 => ("SelfEndingCodesModel", "list", "[J", true)
  | 5 => ("SelfEndingCodesModel", "listed", "I", false)
  | 6 => ("SelfEndingCodesModel", "word", "[I", true)
  | 7 => ("SelfEndingCodesModel", "made", "I", false)
  | 8 => ("SelfEndingCodesModel", "sums", "[J", true)
  | 9 => ("SelfEndingCodesModel", "from", "I", false)
  | _ => ("SelfEndingCodesModel", "none", "Z", false)
def tyX2 : Nat → FieldType := fun k => match k with
  | 0 => .int
  | 1 => .array .int
  | 2 => .int
  | 3 => .int
  | 4 => .array .long
  | 5 => .int
  | 6 => .array .int
  | 7 => .int
  | 8 => .array .long
  | 9 => .int
  | _ => .boolean
abbrev wsX20 : List Cond := u_ws RX2 TX2 11
theorem nmX2 : ∀ a, a < 11 → ∀ b, b < 11 → a ≠ b → (TX2 a).2.1 ≠ (TX2 b).2.1 := by decide +kernel
theorem tyX2_ok : ∀ k, k < 11 → parseFieldDescriptor (TX2 k).2.2.1 = some (tyX2 k) := by decide +kernel
abbrev cX2_init : ByteArray := prog_4_method_1_code
def yX2_init : MethodName := ⟨RX2, "<init>", "()V"⟩
abbrev cX2_thrown : ByteArray := prog_4_method_2_code
def yX2_thrown : MethodName := ⟨RX2, "thrown", "()I"⟩
abbrev cX2_noKind : ByteArray := prog_4_method_3_code
def yX2_noKind : MethodName := ⟨RX2, "noKind", "(II)Z"⟩
abbrev cX2_noNumber : ByteArray := prog_4_method_4_code
def yX2_noNumber : MethodName := ⟨RX2, "noNumber", "(J)Z"⟩
abbrev cX2_bitsOf : ByteArray := prog_4_method_5_code
def yX2_bitsOf : MethodName := ⟨RX2, "bitsOf", "(J)I"⟩
abbrev cX2_powerFor : ByteArray := prog_4_method_6_code
def yX2_powerFor : MethodName := ⟨RX2, "powerFor", "(I)I"⟩
abbrev cX2_byChain : ByteArray := prog_4_method_7_code
def yX2_byChain : MethodName := ⟨RX2, "byChain", "(J)J"⟩
abbrev cX2_greatest : ByteArray := prog_4_method_8_code
def yX2_greatest : MethodName := ⟨RX2, "greatest", "(J)I"⟩
abbrev cX2_lengthOf : ByteArray := prog_4_method_9_code
def yX2_lengthOf : MethodName := ⟨RX2, "lengthOf", "(IIJ)J"⟩
abbrev cX2_bit : ByteArray := prog_4_method_10_code
def yX2_bit : MethodName := ⟨RX2, "bit", "(I)V"⟩
abbrev cX2_low : ByteArray := prog_4_method_11_code
def yX2_low : MethodName := ⟨RX2, "low", "(JI)V"⟩
abbrev cX2_doubled : ByteArray := prog_4_method_12_code
def yX2_doubled : MethodName := ⟨RX2, "doubled", "(J)V"⟩
abbrev cX2_ones : ByteArray := prog_4_method_13_code
def yX2_ones : MethodName := ⟨RX2, "ones", "(J)V"⟩
abbrev cX2_chain : ByteArray := prog_4_method_14_code
def yX2_chain : MethodName := ⟨RX2, "chain", "(J)V"⟩
abbrev cX2_bySums : ByteArray := prog_4_method_15_code
def yX2_bySums : MethodName := ⟨RX2, "bySums", "(J)V"⟩
abbrev cX2_byQuotient : ByteArray := prog_4_method_16_code
def yX2_byQuotient : MethodName := ⟨RX2, "byQuotient", "(IJ)V"⟩
abbrev cX2_byGroups : ByteArray := prog_4_method_17_code
def yX2_byGroups : MethodName := ⟨RX2, "byGroups", "(IJ)V"⟩
abbrev cX2_make : ByteArray := prog_4_method_18_code
def yX2_make : MethodName := ⟨RX2, "make", "(IIJ)V"⟩
abbrev cX2_puts : ByteArray := prog_4_method_19_code
def yX2_puts : MethodName := ⟨RX2, "puts", "(IIJ)Z"⟩
abbrev cX2_next : ByteArray := prog_4_method_20_code
def yX2_next : MethodName := ⟨RX2, "next", "()I"⟩
abbrev cX2_some : ByteArray := prog_4_method_21_code
def yX2_some : MethodName := ⟨RX2, "some", "(I)J"⟩
abbrev cX2_run : ByteArray := prog_4_method_22_code
def yX2_run : MethodName := ⟨RX2, "run", "(I)I"⟩
abbrev cX2_readDoubled : ByteArray := prog_4_method_23_code
def yX2_readDoubled : MethodName := ⟨RX2, "readDoubled", "()J"⟩
abbrev cX2_readChain : ByteArray := prog_4_method_24_code
def yX2_readChain : MethodName := ⟨RX2, "readChain", "()J"⟩
abbrev cX2_readSums : ByteArray := prog_4_method_25_code
def yX2_readSums : MethodName := ⟨RX2, "readSums", "()J"⟩
abbrev cX2_readQuotient : ByteArray := prog_4_method_26_code
def yX2_readQuotient : MethodName := ⟨RX2, "readQuotient", "(I)J"⟩
abbrev cX2_readShort : ByteArray := prog_4_method_27_code
def yX2_readShort : MethodName := ⟨RX2, "readShort", "(I)J"⟩
abbrev cX2_readGroups : ByteArray := prog_4_method_28_code
def yX2_readGroups : MethodName := ⟨RX2, "readGroups", "(I)J"⟩
abbrev cX2_reads : ByteArray := prog_4_method_29_code
def yX2_reads : MethodName := ⟨RX2, "reads", "(II)J"⟩
abbrev cX2_firstOf : ByteArray := prog_4_method_30_code
def yX2_firstOf : MethodName := ⟨RX2, "firstOf", "(I)J"⟩
abbrev cX2_lastOf : ByteArray := prog_4_method_31_code
def yX2_lastOf : MethodName := ⟨RX2, "lastOf", "(I)J"⟩
abbrev cX2_bitsFor : ByteArray := prog_4_method_32_code
def yX2_bitsFor : MethodName := ⟨RX2, "bitsFor", "(II)I"⟩
abbrev cX2_edge : ByteArray := prog_4_method_33_code
def yX2_edge : MethodName := ⟨RX2, "edge", "(IIIZ)J"⟩
abbrev cX2_countOf : ByteArray := prog_4_method_34_code
def yX2_countOf : MethodName := ⟨RX2, "countOf", "(III)J"⟩
abbrev cX2_leastOf : ByteArray := prog_4_method_35_code
def yX2_leastOf : MethodName := ⟨RX2, "leastOf", "(III)J"⟩
abbrev cX2_length : ByteArray := prog_4_method_36_code
def yX2_length : MethodName := ⟨RX2, "length", "(IIJ)J"⟩
abbrev cX2_put : ByteArray := prog_4_method_37_code
def yX2_put : MethodName := ⟨RX2, "put", "(IIJ)I"⟩
abbrev cX2_take : ByteArray := prog_4_method_38_code
def yX2_take : MethodName := ⟨RX2, "take", "(II)J"⟩
abbrev cX2_push : ByteArray := prog_4_method_39_code
def yX2_push : MethodName := ⟨RX2, "push", "(JI)I"⟩
abbrev cX2_bits : ByteArray := prog_4_method_40_code
def yX2_bits : MethodName := ⟨RX2, "bits", "(I)J"⟩
abbrev cX2_size : ByteArray := prog_4_method_41_code
def yX2_size : MethodName := ⟨RX2, "size", "()I"⟩
abbrev cX2_place : ByteArray := prog_4_method_42_code
def yX2_place : MethodName := ⟨RX2, "place", "()I"⟩
abbrev cX2_seek : ByteArray := prog_4_method_43_code
def yX2_seek : MethodName := ⟨RX2, "seek", "(I)V"⟩
abbrev cX2_wipe : ByteArray := prog_4_method_44_code
def yX2_wipe : MethodName := ⟨RX2, "wipe", "()I"⟩
abbrev cX2_add : ByteArray := prog_4_method_45_code
def yX2_add : MethodName := ⟨RX2, "add", "(J)I"⟩
abbrev cX2_get : ByteArray := prog_4_method_46_code
def yX2_get : MethodName := ⟨RX2, "get", "(I)J"⟩
abbrev cX2_clear : ByteArray := prog_4_method_47_code
def yX2_clear : MethodName := ⟨RX2, "clear", "()I"⟩
abbrev cX2_totalOf : ByteArray := prog_4_method_48_code
def yX2_totalOf : MethodName := ⟨RX2, "totalOf", "(II)J"⟩
abbrev cX2_total : ByteArray := prog_4_method_49_code
def yX2_total : MethodName := ⟨RX2, "total", "(II)J"⟩
abbrev cX2_best : ByteArray := prog_4_method_50_code
def yX2_best : MethodName := ⟨RX2, "best", "(II)I"⟩
abbrev cX2_putAll : ByteArray := prog_4_method_51_code
def yX2_putAll : MethodName := ⟨RX2, "putAll", "(II)I"⟩
abbrev cX2_takeAll : ByteArray := prog_4_method_52_code
def yX2_takeAll : MethodName := ⟨RX2, "takeAll", "(II)I"⟩
abbrev cX2_count : ByteArray := prog_4_method_53_code
def yX2_count : MethodName := ⟨RX2, "count", "(III)J"⟩
abbrev cX2_first : ByteArray := prog_4_method_54_code
def yX2_first : MethodName := ⟨RX2, "first", "(III)J"⟩
abbrev cX2_begun : ByteArray := prog_4_method_55_code
def yX2_begun : MethodName := ⟨RX2, "begun", "(III)J"⟩
abbrev cX2_fold : ByteArray := prog_4_method_56_code
def yX2_fold : MethodName := ⟨RX2, "fold", "(J)J"⟩
abbrev cX2_unfold : ByteArray := prog_4_method_57_code
def yX2_unfold : MethodName := ⟨RX2, "unfold", "(J)J"⟩
def RJ6 : String := "java/lang/Integer"
def TJ6 : u_T := fun k => match k with
  | _ => ("", "", "", false)
def tyJ6 : Nat → FieldType := fun k => match k with
  | _ => .int
abbrev wsJ60 : List Cond := u_ws RJ6 TJ6 0
theorem nmJ6 : ∀ a, a < 0 → ∀ b, b < 0 → a ≠ b → (TJ6 a).2.1 ≠ (TJ6 b).2.1 := by decide +kernel
theorem tyJ6_ok : ∀ k, k < 0 → parseFieldDescriptor (TJ6 k).2.2.1 = some (tyJ6 k) := by decide +kernel
abbrev cJ6_numberOfLeadingZeros_0f7a4 : ByteArray := prog_8_method_47_code
def yJ6_numberOfLeadingZeros_0f7a4 : MethodName := ⟨RJ6, "numberOfLeadingZeros", "(I)I"⟩
def RJ13 : String := "java/lang/Long"
def TJ13 : u_T := fun k => match k with
  | _ => ("", "", "", false)
def tyJ13 : Nat → FieldType := fun k => match k with
  | _ => .int
abbrev wsJ130 : List Cond := u_ws RJ13 TJ13 0
theorem nmJ13 : ∀ a, a < 0 → ∀ b, b < 0 → a ≠ b → (TJ13 a).2.1 ≠ (TJ13 b).2.1 := by decide +kernel
theorem tyJ13_ok : ∀ k, k < 0 → parseFieldDescriptor (TJ13 k).2.2.1 = some (tyJ13 k) := by decide +kernel
abbrev cJ13_numberOfLeadingZeros_95d88 : ByteArray := prog_9_method_48_code
def yJ13_numberOfLeadingZeros_95d88 : MethodName := ⟨RJ13, "numberOfLeadingZeros", "(J)I"⟩
def RJ9 : String := "java/lang/Math"
def TJ9 : u_T := fun k => match k with
  | _ => ("", "", "", false)
def tyJ9 : Nat → FieldType := fun k => match k with
  | _ => .int
abbrev wsJ90 : List Cond := u_ws RJ9 TJ9 0
theorem nmJ9 : ∀ a, a < 0 → ∀ b, b < 0 → a ≠ b → (TJ9 a).2.1 ≠ (TJ9 b).2.1 := by decide +kernel
theorem tyJ9_ok : ∀ k, k < 0 → parseFieldDescriptor (TJ9 k).2.2.1 = some (tyJ9 k) := by decide +kernel
abbrev cJ9_max_7cf53 : ByteArray := prog_10_method_65_code
def yJ9_max_7cf53 : MethodName := ⟨RJ9, "max", "(II)I"⟩
def RJ0 : String := "java/lang/String"
def TJ0 : u_T := fun k => match k with
  | _ => ("", "", "", false)
def tyJ0 : Nat → FieldType := fun k => match k with
  | _ => .int
abbrev wsJ00 : List Cond := u_ws RJ0 TJ0 0
theorem nmJ0 : ∀ a, a < 0 → ∀ b, b < 0 → a ≠ b → (TJ0 a).2.1 ≠ (TJ0 b).2.1 := by decide +kernel
theorem tyJ0_ok : ∀ k, k < 0 → parseFieldDescriptor (TJ0 k).2.2.1 = some (tyJ0 k) := by decide +kernel
def RJ7 : String := "java/util/Arrays"
def TJ7 : u_T := fun k => match k with
  | _ => ("", "", "", false)
def tyJ7 : Nat → FieldType := fun k => match k with
  | _ => .int
abbrev wsJ70 : List Cond := u_ws RJ7 TJ7 0
theorem nmJ7 : ∀ a, a < 0 → ∀ b, b < 0 → a ≠ b → (TJ7 a).2.1 ≠ (TJ7 b).2.1 := by decide +kernel
theorem tyJ7_ok : ∀ k, k < 0 → parseFieldDescriptor (TJ7 k).2.2.1 = some (tyJ7 k) := by decide +kernel
abbrev cJ7_fill_d0a16 : ByteArray := prog_14_method_101_code
def yJ7_fill_d0a16 : MethodName := ⟨RJ7, "fill", "([JJ)V"⟩
def RL : String := "SelfEndingCodesLaw"
abbrev cL_length : ByteArray := method_3_code
def yL_length : MethodName := ⟨RL, "length", "(LSelfEndingCodes;IIJ[J)I"⟩
abbrev cL_put : ByteArray := method_4_code
def yL_put : MethodName := ⟨RL, "put", "(LSelfEndingCodes;IIJ[J)I"⟩
abbrev cL_take : ByteArray := method_5_code
def yL_take : MethodName := ⟨RL, "take", "(LSelfEndingCodes;II[J)I"⟩
abbrev cL_push : ByteArray := method_6_code
def yL_push : MethodName := ⟨RL, "push", "(LSelfEndingCodes;JI[J)I"⟩
abbrev cL_seek : ByteArray := method_7_code
def yL_seek : MethodName := ⟨RL, "seek", "(LSelfEndingCodes;I)I"⟩
abbrev cL_add : ByteArray := method_8_code
def yL_add : MethodName := ⟨RL, "add", "(LSelfEndingCodes;J[J)I"⟩
abbrev cL_get : ByteArray := method_9_code
def yL_get : MethodName := ⟨RL, "get", "(LSelfEndingCodes;I[J)I"⟩
abbrev cL_total : ByteArray := method_10_code
def yL_total : MethodName := ⟨RL, "total", "(LSelfEndingCodes;II[J)I"⟩
abbrev cL_best : ByteArray := method_11_code
def yL_best : MethodName := ⟨RL, "best", "(LSelfEndingCodes;II[J)I"⟩
abbrev cL_putAll : ByteArray := method_12_code
def yL_putAll : MethodName := ⟨RL, "putAll", "(LSelfEndingCodes;II[J)I"⟩
abbrev cL_takeAll : ByteArray := method_13_code
def yL_takeAll : MethodName := ⟨RL, "takeAll", "(LSelfEndingCodes;II[J)I"⟩
abbrev cL_count : ByteArray := method_14_code
def yL_count : MethodName := ⟨RL, "count", "(LSelfEndingCodes;III[J)I"⟩
abbrev cL_first : ByteArray := method_15_code
def yL_first : MethodName := ⟨RL, "first", "(LSelfEndingCodes;III[J)I"⟩
abbrev cL_begun : ByteArray := method_16_code
def yL_begun : MethodName := ⟨RL, "begun", "(LSelfEndingCodes;III[J)I"⟩
abbrev cL_fold : ByteArray := method_17_code
def yL_fold : MethodName := ⟨RL, "fold", "(LSelfEndingCodes;J[J)I"⟩
abbrev cL_unfold : ByteArray := method_18_code
def yL_unfold : MethodName := ⟨RL, "unfold", "(LSelfEndingCodes;J[J)I"⟩
abbrev cL_law : ByteArray := code
def yL_law : MethodName := ⟨RL, "law", "([I)Z"⟩
def wsX0_init : List Cond := .code yX0_init cX0_init 1 none :: ([.methodLink RX0 3 objectInit, .instanceMethod objectInit, .code objectInit ⟨#[0xb1]⟩ 1 none, .arrayClass .long, .fieldLink RX0 9 "SelfEndingCodes$BitRow" "words" "[J", .fieldLink RX0 15 "SelfEndingCodes$BitRow" "end" "I", .fieldLink RX0 19 "SelfEndingCodes$BitRow" "place" "I", .fieldLink RX0 22 "SelfEndingCodes$BitRow" "cursor" "I"] ++ wsX00)
def wsX0_room : List Cond := .code yX0_room cX0_room 1 (some .int) :: ([.fieldLink RX0 15 "SelfEndingCodes$BitRow" "end" "I"] ++ wsX00)
def wsJ7_fill_d0a16 : List Cond := .code yJ7_fill_d0a16 cJ7_fill_d0a16 5 none :: ([])
def wsX0_makeEmpty : List Cond := .code yX0_makeEmpty cX0_makeEmpty 1 none :: ([.fieldLink RX0 9 "SelfEndingCodes$BitRow" "words" "[J", .fieldLink RX0 15 "SelfEndingCodes$BitRow" "end" "I", .fieldLink RX0 19 "SelfEndingCodes$BitRow" "place" "I", .methodLink RX0 25 yJ7_fill_d0a16, .static yJ7_fill_d0a16, .initialized RJ7, .code yJ7_fill_d0a16 cJ7_fill_d0a16 5 none] ++ wsX00)
def wsX0_bitAt : List Cond := .code yX0_bitAt cX0_bitAt 3 (some .int) :: ([.fieldLink RX0 15 "SelfEndingCodes$BitRow" "end" "I", .fieldLink RX0 9 "SelfEndingCodes$BitRow" "words" "[J", .constantLong RX0 31 (64), .constantLong RX0 33 (63)] ++ wsX00)
def wsX0_setOne : List Cond := .code yX0_setOne cX0_setOne 2 none :: ([.fieldLink RX0 9 "SelfEndingCodes$BitRow" "words" "[J"] ++ wsX00)
def wsX0_writeBits : List Cond := .code yX0_writeBits cX0_writeBits 6 none :: ([.methodLink RX0 35 yX0_setOne, .instanceMethod yX0_setOne, .selects RX0 yX0_setOne yX0_setOne, .initialized RX0, .code yX0_setOne cX0_setOne 2 none, .fieldLink RX0 9 "SelfEndingCodes$BitRow" "words" "[J"] ++ wsX00)
def wsX0_appendBits : List Cond := .code yX0_appendBits cX0_appendBits 4 none :: ([.fieldLink RX0 15 "SelfEndingCodes$BitRow" "end" "I", .methodLink RX0 39 yX0_writeBits, .instanceMethod yX0_writeBits, .selects RX0 yX0_writeBits yX0_writeBits, .initialized RX0, .code yX0_writeBits cX0_writeBits 6 none, .methodLink RX0 35 yX0_setOne, .instanceMethod yX0_setOne, .selects RX0 yX0_setOne yX0_setOne, .code yX0_setOne cX0_setOne 2 none, .fieldLink RX0 9 "SelfEndingCodes$BitRow" "words" "[J"] ++ wsX00)
def wsX0_appendOnesAndZero : List Cond := .code yX0_appendOnesAndZero cX0_appendOnesAndZero 4 none :: ([.fieldLink RX0 15 "SelfEndingCodes$BitRow" "end" "I", .methodLink RX0 35 yX0_setOne, .instanceMethod yX0_setOne, .selects RX0 yX0_setOne yX0_setOne, .initialized RX0, .code yX0_setOne cX0_setOne 2 none, .fieldLink RX0 9 "SelfEndingCodes$BitRow" "words" "[J"] ++ wsX00)
def wsX0_readBit : List Cond := .code yX0_readBit cX0_readBit 2 (some .int) :: ([.fieldLink RX0 22 "SelfEndingCodes$BitRow" "cursor" "I", .methodLink RX0 43 yX0_bitAt, .instanceMethod yX0_bitAt, .selects RX0 yX0_bitAt yX0_bitAt, .initialized RX0, .code yX0_bitAt cX0_bitAt 3 (some .int), .fieldLink RX0 15 "SelfEndingCodes$BitRow" "end" "I", .fieldLink RX0 9 "SelfEndingCodes$BitRow" "words" "[J", .constantLong RX0 31 (64), .constantLong RX0 33 (63)] ++ wsX00)
def wsX0_readBits : List Cond := .code yX0_readBits cX0_readBits 7 (some .long) :: ([.constantLong RX0 47 (2), .fieldLink RX0 22 "SelfEndingCodes$BitRow" "cursor" "I", .methodLink RX0 43 yX0_bitAt, .instanceMethod yX0_bitAt, .selects RX0 yX0_bitAt yX0_bitAt, .initialized RX0, .code yX0_bitAt cX0_bitAt 3 (some .int), .fieldLink RX0 15 "SelfEndingCodes$BitRow" "end" "I", .fieldLink RX0 9 "SelfEndingCodes$BitRow" "words" "[J", .constantLong RX0 31 (64), .constantLong RX0 33 (63)] ++ wsX00)
def wsX0_readOnesAndZero : List Cond := .code yX0_readOnesAndZero cX0_readOnesAndZero 2 (some .int) :: ([.methodLink RX0 49 yX0_readBit, .instanceMethod yX0_readBit, .selects RX0 yX0_readBit yX0_readBit, .initialized RX0, .code yX0_readBit cX0_readBit 2 (some .int), .fieldLink RX0 22 "SelfEndingCodes$BitRow" "cursor" "I", .methodLink RX0 43 yX0_bitAt, .instanceMethod yX0_bitAt, .selects RX0 yX0_bitAt yX0_bitAt, .code yX0_bitAt cX0_bitAt 3 (some .int), .fieldLink RX0 15 "SelfEndingCodes$BitRow" "end" "I", .fieldLink RX0 9 "SelfEndingCodes$BitRow" "words" "[J", .constantLong RX0 31 (64), .constantLong RX0 33 (63)] ++ wsX00)
def wsX1_init : List Cond := .code yX1_init cX1_init 2 none :: ([.methodLink RX1 3 objectInit, .instanceMethod objectInit, .code objectInit ⟨#[0xb1]⟩ 1 none, .classLink RX1 9 RX0, .instantiable RX0 4, .initialized RX0, .fieldLink RX1 12 "SelfEndingCodes" "row" "LSelfEndingCodes$BitRow;", .arrayClass .long, .fieldLink RX1 16 "SelfEndingCodes" "list" "[J", .fieldLink RX1 20 "SelfEndingCodes" "listed" "I", .fieldLink RX1 24 "SelfEndingCodes" "fibonacci" "[J", .constantLong RX1 27 (2), .instanceMethod yX0_init, .code yX0_init cX0_init 1 none, .methodLink RX0 3 objectInit, .fieldLink RX0 9 "SelfEndingCodes$BitRow" "words" "[J", .fieldLink RX0 15 "SelfEndingCodes$BitRow" "end" "I", .fieldLink RX0 19 "SelfEndingCodes$BitRow" "place" "I", .fieldLink RX0 22 "SelfEndingCodes$BitRow" "cursor" "I"] ++ wsX00 ++ wsX10)
def wsX1_leastParameter : List Cond := .code yX1_leastParameter cX1_leastParameter 1 (some .int) :: ([])
def wsX1_greatestParameter : List Cond := .code yX1_greatestParameter cX1_greatestParameter 1 (some .int) :: ([.constant RX1 114 (1000000)])
def wsX1_isCode : List Cond := .code yX1_isCode cX1_isCode 2 (some .boolean) :: ([.methodLink RX1 93 yX1_leastParameter, .static yX1_leastParameter, .initialized RX1, .code yX1_leastParameter cX1_leastParameter 1 (some .int), .methodLink RX1 115 yX1_greatestParameter, .static yX1_greatestParameter, .code yX1_greatestParameter cX1_greatestParameter 1 (some .int), .constant RX1 114 (1000000)])
def wsX1_requireCode : List Cond := .code yX1_requireCode cX1_requireCode 2 none :: ([.classLink RX1 52 "java/lang/IllegalArgumentException", .initialized "java/lang/IllegalArgumentException", .methodLink RX1 87 yX1_isCode, .static yX1_isCode, .initialized RX1, .code yX1_isCode cX1_isCode 2 (some .boolean), .methodLink RX1 93 yX1_leastParameter, .static yX1_leastParameter, .code yX1_leastParameter cX1_leastParameter 1 (some .int), .methodLink RX1 115 yX1_greatestParameter, .static yX1_greatestParameter, .code yX1_greatestParameter cX1_greatestParameter 1 (some .int), .constant RX1 114 (1000000)] ++ (vx_atS RX1 56 "java/lang/IllegalArgumentException" ["java/lang/RuntimeException", "java/lang/Exception"]).filter goodWord)
def wsX1_requireNumber : List Cond := .code yX1_requireNumber cX1_requireNumber 2 none :: ([.classLink RX1 52 "java/lang/IllegalArgumentException", .initialized "java/lang/IllegalArgumentException", .constantLong RX1 106 (4611686018427387904)] ++ (vx_atS RX1 56 "java/lang/IllegalArgumentException" ["java/lang/RuntimeException", "java/lang/Exception"]).filter goodWord)
def wsJ6_numberOfLeadingZeros_0f7a4 : List Cond := .code yJ6_numberOfLeadingZeros_0f7a4 cJ6_numberOfLeadingZeros_0f7a4 2 (some .int) :: ([.constant RJ6 264 (65536)])
def wsJ13_numberOfLeadingZeros_95d88 : List Cond := .code yJ13_numberOfLeadingZeros_95d88 cJ13_numberOfLeadingZeros_95d88 3 (some .int) :: ([.methodLink RJ13 308 yJ6_numberOfLeadingZeros_0f7a4, .static yJ6_numberOfLeadingZeros_0f7a4, .initialized RJ6, .code yJ6_numberOfLeadingZeros_0f7a4 cJ6_numberOfLeadingZeros_0f7a4 2 (some .int), .constant RJ6 264 (65536)])
def wsX1_bitLength : List Cond := .code yX1_bitLength cX1_bitLength 2 (some .int) :: ([.methodLink RX1 144 yJ13_numberOfLeadingZeros_95d88, .static yJ13_numberOfLeadingZeros_95d88, .initialized RJ13, .code yJ13_numberOfLeadingZeros_95d88 cJ13_numberOfLeadingZeros_95d88 3 (some .int), .methodLink RJ13 308 yJ6_numberOfLeadingZeros_0f7a4, .static yJ6_numberOfLeadingZeros_0f7a4, .initialized RJ6, .code yJ6_numberOfLeadingZeros_0f7a4 cJ6_numberOfLeadingZeros_0f7a4 2 (some .int), .constant RJ6 264 (65536)])
def wsX1_gammaLength : List Cond := .code yX1_gammaLength cX1_gammaLength 2 (some .int) :: ([.methodLink RX1 127 yX1_bitLength, .static yX1_bitLength, .initialized RX1, .code yX1_bitLength cX1_bitLength 2 (some .int), .methodLink RX1 144 yJ13_numberOfLeadingZeros_95d88, .static yJ13_numberOfLeadingZeros_95d88, .initialized RJ13, .code yJ13_numberOfLeadingZeros_95d88 cJ13_numberOfLeadingZeros_95d88 3 (some .int), .methodLink RJ13 308 yJ6_numberOfLeadingZeros_0f7a4, .static yJ6_numberOfLeadingZeros_0f7a4, .initialized RJ6, .code yJ6_numberOfLeadingZeros_0f7a4 cJ6_numberOfLeadingZeros_0f7a4 2 (some .int), .constant RJ6 264 (65536)])
def wsX1_omegaLength : List Cond := .code yX1_omegaLength cX1_omegaLength 7 (some .int) :: ([.methodLink RX1 127 yX1_bitLength, .static yX1_bitLength, .initialized RX1, .code yX1_bitLength cX1_bitLength 2 (some .int), .methodLink RX1 144 yJ13_numberOfLeadingZeros_95d88, .static yJ13_numberOfLeadingZeros_95d88, .initialized RJ13, .code yJ13_numberOfLeadingZeros_95d88 cJ13_numberOfLeadingZeros_95d88 3 (some .int), .methodLink RJ13 308 yJ6_numberOfLeadingZeros_0f7a4, .static yJ6_numberOfLeadingZeros_0f7a4, .initialized RJ6, .code yJ6_numberOfLeadingZeros_0f7a4 cJ6_numberOfLeadingZeros_0f7a4 2 (some .int), .constant RJ6 264 (65536)])
def wsX1_fibonacciLength : List Cond := .code yX1_fibonacciLength cX1_fibonacciLength 7 (some .int) :: ([.fieldLink RX1 24 "SelfEndingCodes" "fibonacci" "[J"] ++ wsX10)
def wsX1_golombWidth : List Cond := .code yX1_golombWidth cX1_golombWidth 1 (some .int) :: ([.methodLink RX1 127 yX1_bitLength, .static yX1_bitLength, .initialized RX1, .code yX1_bitLength cX1_bitLength 2 (some .int), .methodLink RX1 144 yJ13_numberOfLeadingZeros_95d88, .static yJ13_numberOfLeadingZeros_95d88, .initialized RJ13, .code yJ13_numberOfLeadingZeros_95d88 cJ13_numberOfLeadingZeros_95d88 3 (some .int), .methodLink RJ13 308 yJ6_numberOfLeadingZeros_0f7a4, .static yJ6_numberOfLeadingZeros_0f7a4, .initialized RJ6, .code yJ6_numberOfLeadingZeros_0f7a4 cJ6_numberOfLeadingZeros_0f7a4 2 (some .int), .constant RJ6 264 (65536)])
def wsX1_golombShortRests : List Cond := .code yX1_golombShortRests cX1_golombShortRests 2 (some .long) :: ([])
def wsX1_golombLength : List Cond := .code yX1_golombLength cX1_golombLength 8 (some .long) :: ([.methodLink RX1 149 yX1_golombWidth, .static yX1_golombWidth, .initialized RX1, .code yX1_golombWidth cX1_golombWidth 1 (some .int), .methodLink RX1 127 yX1_bitLength, .static yX1_bitLength, .code yX1_bitLength cX1_bitLength 2 (some .int), .methodLink RX1 144 yJ13_numberOfLeadingZeros_95d88, .static yJ13_numberOfLeadingZeros_95d88, .initialized RJ13, .code yJ13_numberOfLeadingZeros_95d88 cJ13_numberOfLeadingZeros_95d88 3 (some .int), .methodLink RJ13 308 yJ6_numberOfLeadingZeros_0f7a4, .static yJ6_numberOfLeadingZeros_0f7a4, .initialized RJ6, .code yJ6_numberOfLeadingZeros_0f7a4 cJ6_numberOfLeadingZeros_0f7a4 2 (some .int), .constant RJ6 264 (65536), .methodLink RX1 152 yX1_golombShortRests, .static yX1_golombShortRests, .code yX1_golombShortRests cX1_golombShortRests 2 (some .long)])
def wsX1_groupsOf : List Cond := .code yX1_groupsOf cX1_groupsOf 3 (some .int) :: ([.methodLink RX1 155 Lib.Math.max.name, .static Lib.Math.max.name, .initialized "java/lang/Math", .code Lib.Math.max.name Lib.Math.max.code 2 (some .int), .methodLink RX1 127 yX1_bitLength, .static yX1_bitLength, .initialized RX1, .code yX1_bitLength cX1_bitLength 2 (some .int), .methodLink RX1 144 yJ13_numberOfLeadingZeros_95d88, .static yJ13_numberOfLeadingZeros_95d88, .initialized RJ13, .code yJ13_numberOfLeadingZeros_95d88 cJ13_numberOfLeadingZeros_95d88 3 (some .int), .methodLink RJ13 308 yJ6_numberOfLeadingZeros_0f7a4, .static yJ6_numberOfLeadingZeros_0f7a4, .initialized RJ6, .code yJ6_numberOfLeadingZeros_0f7a4 cJ6_numberOfLeadingZeros_0f7a4 2 (some .int), .constant RJ6 264 (65536)])
def wsX1_codewordLength_r1 : List Cond := [Cond.methodLink RX1 124 yX1_gammaLength, Cond.static yX1_gammaLength, Cond.initialized RX1, Cond.code yX1_gammaLength cX1_gammaLength 2 (some .int), Cond.methodLink RX1 127 yX1_bitLength, Cond.static yX1_bitLength, Cond.code yX1_bitLength cX1_bitLength 2 (some .int), Cond.methodLink RX1 144 yJ13_numberOfLeadingZeros_95d88, Cond.static yJ13_numberOfLeadingZeros_95d88, Cond.initialized RJ13, Cond.code yJ13_numberOfLeadingZeros_95d88 cJ13_numberOfLeadingZeros_95d88 3 (some .int), Cond.methodLink RJ13 308 yJ6_numberOfLeadingZeros_0f7a4, Cond.static yJ6_numberOfLeadingZeros_0f7a4, Cond.initialized RJ6, Cond.code yJ6_numberOfLeadingZeros_0f7a4 cJ6_numberOfLeadingZeros_0f7a4 2 (some .int), Cond.constant RJ6 264 (65536), Cond.methodLink RX1 130 yX1_omegaLength, Cond.static yX1_omegaLength, Cond.code yX1_omegaLength cX1_omegaLength 7 (some .int), Cond.methodLink RX1 133 yX1_fibonacciLength, Cond.instanceMethod yX1_fibonacciLength, Cond.selects RX1 yX1_fibonacciLength yX1_fibonacciLength, Cond.code yX1_fibonacciLength cX1_fibonacciLength 7 (some .int), Cond.fieldLink RX1 24 "SelfEndingCodes" "fibonacci" "[J"]
def wsX1_codewordLength_r2 : List Cond := [Cond.methodLink RX1 136 yX1_golombLength, Cond.static yX1_golombLength, Cond.code yX1_golombLength cX1_golombLength 8 (some .long), Cond.methodLink RX1 149 yX1_golombWidth, Cond.static yX1_golombWidth, Cond.code yX1_golombWidth cX1_golombWidth 1 (some .int), Cond.methodLink RX1 152 yX1_golombShortRests, Cond.static yX1_golombShortRests, Cond.code yX1_golombShortRests cX1_golombShortRests 2 (some .long), Cond.methodLink RX1 140 yX1_groupsOf, Cond.static yX1_groupsOf, Cond.code yX1_groupsOf cX1_groupsOf 3 (some .int), Cond.methodLink RX1 155 Lib.Math.max.name, Cond.static Lib.Math.max.name, Cond.initialized "java/lang/Math", Cond.code Lib.Math.max.name Lib.Math.max.code 2 (some .int)]
def wsX1_codewordLength : List Cond := .code yX1_codewordLength cX1_codewordLength 5 (some .long) :: ((wsX1_codewordLength_r1 ++ wsX1_codewordLength_r2) ++ wsX10)
def wsX1_length_r1 : List Cond := [Cond.methodLink RX1 29 yX1_requireCode, Cond.static yX1_requireCode, Cond.initialized RX1, Cond.code yX1_requireCode cX1_requireCode 2 none, Cond.classLink RX1 52 "java/lang/IllegalArgumentException", Cond.initialized "java/lang/IllegalArgumentException", Cond.methodLink RX1 87 yX1_isCode, Cond.static yX1_isCode, Cond.code yX1_isCode cX1_isCode 2 (some .boolean), Cond.methodLink RX1 93 yX1_leastParameter, Cond.static yX1_leastParameter, Cond.code yX1_leastParameter cX1_leastParameter 1 (some .int), Cond.methodLink RX1 115 yX1_greatestParameter, Cond.static yX1_greatestParameter, Cond.code yX1_greatestParameter cX1_greatestParameter 1 (some .int), Cond.constant RX1 114 (1000000), Cond.methodLink RX1 33 yX1_requireNumber, Cond.static yX1_requireNumber, Cond.code yX1_requireNumber cX1_requireNumber 2 none, Cond.constantLong RX1 106 (4611686018427387904), Cond.methodLink RX1 37 yX1_codewordLength, Cond.instanceMethod yX1_codewordLength, Cond.selects RX1 yX1_codewordLength yX1_codewordLength, Cond.code yX1_codewordLength cX1_codewordLength 5 (some .long)]
def wsX1_length_r2 : List Cond := [Cond.methodLink RX1 124 yX1_gammaLength, Cond.static yX1_gammaLength, Cond.code yX1_gammaLength cX1_gammaLength 2 (some .int), Cond.methodLink RX1 127 yX1_bitLength, Cond.static yX1_bitLength, Cond.code yX1_bitLength cX1_bitLength 2 (some .int), Cond.methodLink RX1 144 yJ13_numberOfLeadingZeros_95d88, Cond.static yJ13_numberOfLeadingZeros_95d88, Cond.initialized RJ13, Cond.code yJ13_numberOfLeadingZeros_95d88 cJ13_numberOfLeadingZeros_95d88 3 (some .int), Cond.methodLink RJ13 308 yJ6_numberOfLeadingZeros_0f7a4, Cond.static yJ6_numberOfLeadingZeros_0f7a4, Cond.initialized RJ6, Cond.code yJ6_numberOfLeadingZeros_0f7a4 cJ6_numberOfLeadingZeros_0f7a4 2 (some .int), Cond.constant RJ6 264 (65536), Cond.methodLink RX1 130 yX1_omegaLength, Cond.static yX1_omegaLength, Cond.code yX1_omegaLength cX1_omegaLength 7 (some .int), Cond.methodLink RX1 133 yX1_fibonacciLength, Cond.instanceMethod yX1_fibonacciLength, Cond.selects RX1 yX1_fibonacciLength yX1_fibonacciLength, Cond.code yX1_fibonacciLength cX1_fibonacciLength 7 (some .int), Cond.fieldLink RX1 24 "SelfEndingCodes" "fibonacci" "[J", Cond.methodLink RX1 136 yX1_golombLength]
def wsX1_length_r3 : List Cond := [Cond.static yX1_golombLength, Cond.code yX1_golombLength cX1_golombLength 8 (some .long), Cond.methodLink RX1 149 yX1_golombWidth, Cond.static yX1_golombWidth, Cond.code yX1_golombWidth cX1_golombWidth 1 (some .int), Cond.methodLink RX1 152 yX1_golombShortRests, Cond.static yX1_golombShortRests, Cond.code yX1_golombShortRests cX1_golombShortRests 2 (some .long), Cond.methodLink RX1 140 yX1_groupsOf, Cond.static yX1_groupsOf, Cond.code yX1_groupsOf cX1_groupsOf 3 (some .int), Cond.methodLink RX1 155 Lib.Math.max.name, Cond.static Lib.Math.max.name, Cond.initialized "java/lang/Math", Cond.code Lib.Math.max.name Lib.Math.max.code 2 (some .int)]
def wsX1_length : List Cond := .code yX1_length cX1_length 5 (some .long) :: ((wsX1_length_r1 ++ (wsX1_length_r2 ++ wsX1_length_r3)) ++ wsX10 ++ (vx_atS RX1 56 "java/lang/IllegalArgumentException" ["java/lang/RuntimeException", "java/lang/Exception"]).filter goodWord)
def wsX1_appendGamma_r1 : List Cond := [Cond.fieldLink RX1 12 "SelfEndingCodes" "row" "LSelfEndingCodes$BitRow;", Cond.methodLink RX1 127 yX1_bitLength, Cond.static yX1_bitLength, Cond.initialized RX1, Cond.code yX1_bitLength cX1_bitLength 2 (some .int), Cond.methodLink RX1 144 yJ13_numberOfLeadingZeros_95d88, Cond.static yJ13_numberOfLeadingZeros_95d88, Cond.initialized RJ13, Cond.code yJ13_numberOfLeadingZeros_95d88 cJ13_numberOfLeadingZeros_95d88 3 (some .int), Cond.methodLink RJ13 308 yJ6_numberOfLeadingZeros_0f7a4, Cond.static yJ6_numberOfLeadingZeros_0f7a4, Cond.initialized RJ6, Cond.code yJ6_numberOfLeadingZeros_0f7a4 cJ6_numberOfLeadingZeros_0f7a4 2 (some .int), Cond.constant RJ6 264 (65536), Cond.methodLink RX1 63 yX0_appendBits, Cond.instanceMethod yX0_appendBits, Cond.selects RX0 yX0_appendBits yX0_appendBits, Cond.initialized RX0, Cond.code yX0_appendBits cX0_appendBits 4 none, Cond.fieldLink RX0 15 "SelfEndingCodes$BitRow" "end" "I", Cond.methodLink RX0 39 yX0_writeBits, Cond.instanceMethod yX0_writeBits, Cond.selects RX0 yX0_writeBits yX0_writeBits, Cond.code yX0_writeBits cX0_writeBits 6 none]
def wsX1_appendGamma_r2 : List Cond := [Cond.methodLink RX0 35 yX0_setOne, Cond.instanceMethod yX0_setOne, Cond.selects RX0 yX0_setOne yX0_setOne, Cond.code yX0_setOne cX0_setOne 2 none, Cond.fieldLink RX0 9 "SelfEndingCodes$BitRow" "words" "[J"]
def wsX1_appendGamma : List Cond := .code yX1_appendGamma cX1_appendGamma 3 none :: ((wsX1_appendGamma_r1 ++ wsX1_appendGamma_r2) ++ wsX10 ++ wsX00)
def wsX1_appendOmega_r1 : List Cond := [Cond.fieldLink RX1 12 "SelfEndingCodes" "row" "LSelfEndingCodes$BitRow;", Cond.methodLink RX1 130 yX1_omegaLength, Cond.static yX1_omegaLength, Cond.initialized RX1, Cond.code yX1_omegaLength cX1_omegaLength 7 (some .int), Cond.methodLink RX1 127 yX1_bitLength, Cond.static yX1_bitLength, Cond.code yX1_bitLength cX1_bitLength 2 (some .int), Cond.methodLink RX1 144 yJ13_numberOfLeadingZeros_95d88, Cond.static yJ13_numberOfLeadingZeros_95d88, Cond.initialized RJ13, Cond.code yJ13_numberOfLeadingZeros_95d88 cJ13_numberOfLeadingZeros_95d88 3 (some .int), Cond.methodLink RJ13 308 yJ6_numberOfLeadingZeros_0f7a4, Cond.static yJ6_numberOfLeadingZeros_0f7a4, Cond.initialized RJ6, Cond.code yJ6_numberOfLeadingZeros_0f7a4 cJ6_numberOfLeadingZeros_0f7a4 2 (some .int), Cond.constant RJ6 264 (65536), Cond.methodLink RX1 186 yX0_writeBits, Cond.instanceMethod yX0_writeBits, Cond.selects RX0 yX0_writeBits yX0_writeBits, Cond.initialized RX0, Cond.code yX0_writeBits cX0_writeBits 6 none, Cond.methodLink RX0 35 yX0_setOne, Cond.instanceMethod yX0_setOne]
def wsX1_appendOmega_r2 : List Cond := [Cond.selects RX0 yX0_setOne yX0_setOne, Cond.code yX0_setOne cX0_setOne 2 none, Cond.fieldLink RX0 9 "SelfEndingCodes$BitRow" "words" "[J"]
def wsX1_appendOmega : List Cond := .code yX1_appendOmega cX1_appendOmega 9 none :: ((wsX1_appendOmega_r1 ++ wsX1_appendOmega_r2) ++ wsX10 ++ wsX00)
def wsX1_appendFibonacci : List Cond := .code yX1_appendFibonacci cX1_appendFibonacci 7 none :: ([.fieldLink RX1 24 "SelfEndingCodes" "fibonacci" "[J", .fieldLink RX1 12 "SelfEndingCodes" "row" "LSelfEndingCodes$BitRow;", .methodLink RX1 133 yX1_fibonacciLength, .instanceMethod yX1_fibonacciLength, .selects RX1 yX1_fibonacciLength yX1_fibonacciLength, .initialized RX1, .code yX1_fibonacciLength cX1_fibonacciLength 7 (some .int), .methodLink RX1 186 yX0_writeBits, .instanceMethod yX0_writeBits, .selects RX0 yX0_writeBits yX0_writeBits, .initialized RX0, .code yX0_writeBits cX0_writeBits 6 none, .methodLink RX0 35 yX0_setOne, .instanceMethod yX0_setOne, .selects RX0 yX0_setOne yX0_setOne, .code yX0_setOne cX0_setOne 2 none, .fieldLink RX0 9 "SelfEndingCodes$BitRow" "words" "[J"] ++ wsX10 ++ wsX00)
def wsX1_appendGolomb_r1 : List Cond := [Cond.fieldLink RX1 12 "SelfEndingCodes" "row" "LSelfEndingCodes$BitRow;", Cond.methodLink RX1 167 yX0_appendOnesAndZero, Cond.instanceMethod yX0_appendOnesAndZero, Cond.selects RX0 yX0_appendOnesAndZero yX0_appendOnesAndZero, Cond.initialized RX0, Cond.code yX0_appendOnesAndZero cX0_appendOnesAndZero 4 none, Cond.fieldLink RX0 15 "SelfEndingCodes$BitRow" "end" "I", Cond.methodLink RX0 35 yX0_setOne, Cond.instanceMethod yX0_setOne, Cond.selects RX0 yX0_setOne yX0_setOne, Cond.code yX0_setOne cX0_setOne 2 none, Cond.fieldLink RX0 9 "SelfEndingCodes$BitRow" "words" "[J", Cond.methodLink RX1 149 yX1_golombWidth, Cond.static yX1_golombWidth, Cond.initialized RX1, Cond.code yX1_golombWidth cX1_golombWidth 1 (some .int), Cond.methodLink RX1 127 yX1_bitLength, Cond.static yX1_bitLength, Cond.code yX1_bitLength cX1_bitLength 2 (some .int), Cond.methodLink RX1 144 yJ13_numberOfLeadingZeros_95d88, Cond.static yJ13_numberOfLeadingZeros_95d88, Cond.initialized RJ13, Cond.code yJ13_numberOfLeadingZeros_95d88 cJ13_numberOfLeadingZeros_95d88 3 (some .int), Cond.methodLink RJ13 308 yJ6_numberOfLeadingZeros_0f7a4]
def wsX1_appendGolomb_r2 : List Cond := [Cond.static yJ6_numberOfLeadingZeros_0f7a4, Cond.initialized RJ6, Cond.code yJ6_numberOfLeadingZeros_0f7a4 cJ6_numberOfLeadingZeros_0f7a4 2 (some .int), Cond.constant RJ6 264 (65536), Cond.methodLink RX1 152 yX1_golombShortRests, Cond.static yX1_golombShortRests, Cond.code yX1_golombShortRests cX1_golombShortRests 2 (some .long), Cond.methodLink RX1 63 yX0_appendBits, Cond.instanceMethod yX0_appendBits, Cond.selects RX0 yX0_appendBits yX0_appendBits, Cond.code yX0_appendBits cX0_appendBits 4 none, Cond.methodLink RX0 39 yX0_writeBits, Cond.instanceMethod yX0_writeBits, Cond.selects RX0 yX0_writeBits yX0_writeBits, Cond.code yX0_writeBits cX0_writeBits 6 none]
def wsX1_appendGolomb : List Cond := .code yX1_appendGolomb cX1_appendGolomb 9 none :: ((wsX1_appendGolomb_r1 ++ wsX1_appendGolomb_r2) ++ wsX10 ++ wsX00)
def wsX1_appendGroups_r1 : List Cond := [Cond.fieldLink RX1 12 "SelfEndingCodes" "row" "LSelfEndingCodes$BitRow;", Cond.methodLink RX1 140 yX1_groupsOf, Cond.static yX1_groupsOf, Cond.initialized RX1, Cond.code yX1_groupsOf cX1_groupsOf 3 (some .int), Cond.methodLink RX1 155 Lib.Math.max.name, Cond.static Lib.Math.max.name, Cond.initialized "java/lang/Math", Cond.code Lib.Math.max.name Lib.Math.max.code 2 (some .int), Cond.methodLink RX1 127 yX1_bitLength, Cond.static yX1_bitLength, Cond.code yX1_bitLength cX1_bitLength 2 (some .int), Cond.methodLink RX1 144 yJ13_numberOfLeadingZeros_95d88, Cond.static yJ13_numberOfLeadingZeros_95d88, Cond.initialized RJ13, Cond.code yJ13_numberOfLeadingZeros_95d88 cJ13_numberOfLeadingZeros_95d88 3 (some .int), Cond.methodLink RJ13 308 yJ6_numberOfLeadingZeros_0f7a4, Cond.static yJ6_numberOfLeadingZeros_0f7a4, Cond.initialized RJ6, Cond.code yJ6_numberOfLeadingZeros_0f7a4 cJ6_numberOfLeadingZeros_0f7a4 2 (some .int), Cond.constant RJ6 264 (65536), Cond.methodLink RX1 63 yX0_appendBits, Cond.instanceMethod yX0_appendBits, Cond.selects RX0 yX0_appendBits yX0_appendBits]
def wsX1_appendGroups_r2 : List Cond := [Cond.initialized RX0, Cond.code yX0_appendBits cX0_appendBits 4 none, Cond.fieldLink RX0 15 "SelfEndingCodes$BitRow" "end" "I", Cond.methodLink RX0 39 yX0_writeBits, Cond.instanceMethod yX0_writeBits, Cond.selects RX0 yX0_writeBits yX0_writeBits, Cond.code yX0_writeBits cX0_writeBits 6 none, Cond.methodLink RX0 35 yX0_setOne, Cond.instanceMethod yX0_setOne, Cond.selects RX0 yX0_setOne yX0_setOne, Cond.code yX0_setOne cX0_setOne 2 none, Cond.fieldLink RX0 9 "SelfEndingCodes$BitRow" "words" "[J"]
def wsX1_appendGroups : List Cond := .code yX1_appendGroups cX1_appendGroups 8 none :: ((wsX1_appendGroups_r1 ++ wsX1_appendGroups_r2) ++ wsX10 ++ wsX00)
def wsX1_appendCodeword_r1 : List Cond := [Cond.fieldLink RX1 12 "SelfEndingCodes" "row" "LSelfEndingCodes$BitRow;", Cond.methodLink RX1 167 yX0_appendOnesAndZero, Cond.instanceMethod yX0_appendOnesAndZero, Cond.selects RX0 yX0_appendOnesAndZero yX0_appendOnesAndZero, Cond.initialized RX0, Cond.code yX0_appendOnesAndZero cX0_appendOnesAndZero 4 none, Cond.fieldLink RX0 15 "SelfEndingCodes$BitRow" "end" "I", Cond.methodLink RX0 35 yX0_setOne, Cond.instanceMethod yX0_setOne, Cond.selects RX0 yX0_setOne yX0_setOne, Cond.code yX0_setOne cX0_setOne 2 none, Cond.fieldLink RX0 9 "SelfEndingCodes$BitRow" "words" "[J", Cond.methodLink RX1 170 yX1_appendGamma, Cond.instanceMethod yX1_appendGamma, Cond.selects RX1 yX1_appendGamma yX1_appendGamma, Cond.initialized RX1, Cond.code yX1_appendGamma cX1_appendGamma 3 none, Cond.methodLink RX1 127 yX1_bitLength, Cond.static yX1_bitLength, Cond.code yX1_bitLength cX1_bitLength 2 (some .int), Cond.methodLink RX1 144 yJ13_numberOfLeadingZeros_95d88, Cond.static yJ13_numberOfLeadingZeros_95d88, Cond.initialized RJ13, Cond.code yJ13_numberOfLeadingZeros_95d88 cJ13_numberOfLeadingZeros_95d88 3 (some .int)]
def wsX1_appendCodeword_r2 : List Cond := [Cond.methodLink RJ13 308 yJ6_numberOfLeadingZeros_0f7a4, Cond.static yJ6_numberOfLeadingZeros_0f7a4, Cond.initialized RJ6, Cond.code yJ6_numberOfLeadingZeros_0f7a4 cJ6_numberOfLeadingZeros_0f7a4 2 (some .int), Cond.constant RJ6 264 (65536), Cond.methodLink RX1 63 yX0_appendBits, Cond.instanceMethod yX0_appendBits, Cond.selects RX0 yX0_appendBits yX0_appendBits, Cond.code yX0_appendBits cX0_appendBits 4 none, Cond.methodLink RX0 39 yX0_writeBits, Cond.instanceMethod yX0_writeBits, Cond.selects RX0 yX0_writeBits yX0_writeBits, Cond.code yX0_writeBits cX0_writeBits 6 none, Cond.methodLink RX1 173 yX1_appendOmega, Cond.instanceMethod yX1_appendOmega, Cond.selects RX1 yX1_appendOmega yX1_appendOmega, Cond.code yX1_appendOmega cX1_appendOmega 9 none, Cond.methodLink RX1 130 yX1_omegaLength, Cond.static yX1_omegaLength, Cond.code yX1_omegaLength cX1_omegaLength 7 (some .int), Cond.methodLink RX1 186 yX0_writeBits, Cond.methodLink RX1 176 yX1_appendFibonacci, Cond.instanceMethod yX1_appendFibonacci, Cond.selects RX1 yX1_appendFibonacci yX1_appendFibonacci]
def wsX1_appendCodeword_r3 : List Cond := [Cond.code yX1_appendFibonacci cX1_appendFibonacci 7 none, Cond.fieldLink RX1 24 "SelfEndingCodes" "fibonacci" "[J", Cond.methodLink RX1 133 yX1_fibonacciLength, Cond.instanceMethod yX1_fibonacciLength, Cond.selects RX1 yX1_fibonacciLength yX1_fibonacciLength, Cond.code yX1_fibonacciLength cX1_fibonacciLength 7 (some .int), Cond.methodLink RX1 179 yX1_appendGolomb, Cond.instanceMethod yX1_appendGolomb, Cond.selects RX1 yX1_appendGolomb yX1_appendGolomb, Cond.code yX1_appendGolomb cX1_appendGolomb 9 none, Cond.methodLink RX1 149 yX1_golombWidth, Cond.static yX1_golombWidth, Cond.code yX1_golombWidth cX1_golombWidth 1 (some .int), Cond.methodLink RX1 152 yX1_golombShortRests, Cond.static yX1_golombShortRests, Cond.code yX1_golombShortRests cX1_golombShortRests 2 (some .long), Cond.methodLink RX1 183 yX1_appendGroups, Cond.instanceMethod yX1_appendGroups, Cond.selects RX1 yX1_appendGroups yX1_appendGroups, Cond.code yX1_appendGroups cX1_appendGroups 8 none, Cond.methodLink RX1 140 yX1_groupsOf, Cond.static yX1_groupsOf, Cond.code yX1_groupsOf cX1_groupsOf 3 (some .int), Cond.methodLink RX1 155 Lib.Math.max.name]
def wsX1_appendCodeword_r4 : List Cond := [Cond.static Lib.Math.max.name, Cond.initialized "java/lang/Math", Cond.code Lib.Math.max.name Lib.Math.max.code 2 (some .int)]
def wsX1_appendCodeword : List Cond := .code yX1_appendCodeword cX1_appendCodeword 5 none :: ((wsX1_appendCodeword_r1 ++ (wsX1_appendCodeword_r2 ++ (wsX1_appendCodeword_r3 ++ wsX1_appendCodeword_r4))) ++ wsX10 ++ wsX00)
def wsX1_appendIfRoom_r1 : List Cond := [Cond.fieldLink RX1 12 "SelfEndingCodes" "row" "LSelfEndingCodes$BitRow;", Cond.methodLink RX1 37 yX1_codewordLength, Cond.instanceMethod yX1_codewordLength, Cond.selects RX1 yX1_codewordLength yX1_codewordLength, Cond.initialized RX1, Cond.code yX1_codewordLength cX1_codewordLength 5 (some .long), Cond.methodLink RX1 124 yX1_gammaLength, Cond.static yX1_gammaLength, Cond.code yX1_gammaLength cX1_gammaLength 2 (some .int), Cond.methodLink RX1 127 yX1_bitLength, Cond.static yX1_bitLength, Cond.code yX1_bitLength cX1_bitLength 2 (some .int), Cond.methodLink RX1 144 yJ13_numberOfLeadingZeros_95d88, Cond.static yJ13_numberOfLeadingZeros_95d88, Cond.initialized RJ13, Cond.code yJ13_numberOfLeadingZeros_95d88 cJ13_numberOfLeadingZeros_95d88 3 (some .int), Cond.methodLink RJ13 308 yJ6_numberOfLeadingZeros_0f7a4, Cond.static yJ6_numberOfLeadingZeros_0f7a4, Cond.initialized RJ6, Cond.code yJ6_numberOfLeadingZeros_0f7a4 cJ6_numberOfLeadingZeros_0f7a4 2 (some .int), Cond.constant RJ6 264 (65536), Cond.methodLink RX1 130 yX1_omegaLength, Cond.static yX1_omegaLength, Cond.code yX1_omegaLength cX1_omegaLength 7 (some .int)]
def wsX1_appendIfRoom_r2 : List Cond := [Cond.methodLink RX1 133 yX1_fibonacciLength, Cond.instanceMethod yX1_fibonacciLength, Cond.selects RX1 yX1_fibonacciLength yX1_fibonacciLength, Cond.code yX1_fibonacciLength cX1_fibonacciLength 7 (some .int), Cond.fieldLink RX1 24 "SelfEndingCodes" "fibonacci" "[J", Cond.methodLink RX1 136 yX1_golombLength, Cond.static yX1_golombLength, Cond.code yX1_golombLength cX1_golombLength 8 (some .long), Cond.methodLink RX1 149 yX1_golombWidth, Cond.static yX1_golombWidth, Cond.code yX1_golombWidth cX1_golombWidth 1 (some .int), Cond.methodLink RX1 152 yX1_golombShortRests, Cond.static yX1_golombShortRests, Cond.code yX1_golombShortRests cX1_golombShortRests 2 (some .long), Cond.methodLink RX1 140 yX1_groupsOf, Cond.static yX1_groupsOf, Cond.code yX1_groupsOf cX1_groupsOf 3 (some .int), Cond.methodLink RX1 155 Lib.Math.max.name, Cond.static Lib.Math.max.name, Cond.initialized "java/lang/Math", Cond.code Lib.Math.max.name Lib.Math.max.code 2 (some .int), Cond.methodLink RX1 59 yX0_room, Cond.instanceMethod yX0_room, Cond.selects RX0 yX0_room yX0_room]
def wsX1_appendIfRoom_r3 : List Cond := [Cond.initialized RX0, Cond.code yX0_room cX0_room 1 (some .int), Cond.fieldLink RX0 15 "SelfEndingCodes$BitRow" "end" "I", Cond.methodLink RX1 163 yX1_appendCodeword, Cond.instanceMethod yX1_appendCodeword, Cond.selects RX1 yX1_appendCodeword yX1_appendCodeword, Cond.code yX1_appendCodeword cX1_appendCodeword 5 none, Cond.methodLink RX1 167 yX0_appendOnesAndZero, Cond.instanceMethod yX0_appendOnesAndZero, Cond.selects RX0 yX0_appendOnesAndZero yX0_appendOnesAndZero, Cond.code yX0_appendOnesAndZero cX0_appendOnesAndZero 4 none, Cond.methodLink RX0 35 yX0_setOne, Cond.instanceMethod yX0_setOne, Cond.selects RX0 yX0_setOne yX0_setOne, Cond.code yX0_setOne cX0_setOne 2 none, Cond.fieldLink RX0 9 "SelfEndingCodes$BitRow" "words" "[J", Cond.methodLink RX1 170 yX1_appendGamma, Cond.instanceMethod yX1_appendGamma, Cond.selects RX1 yX1_appendGamma yX1_appendGamma, Cond.code yX1_appendGamma cX1_appendGamma 3 none, Cond.methodLink RX1 63 yX0_appendBits, Cond.instanceMethod yX0_appendBits, Cond.selects RX0 yX0_appendBits yX0_appendBits, Cond.code yX0_appendBits cX0_appendBits 4 none]
def wsX1_appendIfRoom_r4 : List Cond := [Cond.methodLink RX0 39 yX0_writeBits, Cond.instanceMethod yX0_writeBits, Cond.selects RX0 yX0_writeBits yX0_writeBits, Cond.code yX0_writeBits cX0_writeBits 6 none, Cond.methodLink RX1 173 yX1_appendOmega, Cond.instanceMethod yX1_appendOmega, Cond.selects RX1 yX1_appendOmega yX1_appendOmega, Cond.code yX1_appendOmega cX1_appendOmega 9 none, Cond.methodLink RX1 186 yX0_writeBits, Cond.methodLink RX1 176 yX1_appendFibonacci, Cond.instanceMethod yX1_appendFibonacci, Cond.selects RX1 yX1_appendFibonacci yX1_appendFibonacci, Cond.code yX1_appendFibonacci cX1_appendFibonacci 7 none, Cond.methodLink RX1 179 yX1_appendGolomb, Cond.instanceMethod yX1_appendGolomb, Cond.selects RX1 yX1_appendGolomb yX1_appendGolomb, Cond.code yX1_appendGolomb cX1_appendGolomb 9 none, Cond.methodLink RX1 183 yX1_appendGroups, Cond.instanceMethod yX1_appendGroups, Cond.selects RX1 yX1_appendGroups yX1_appendGroups, Cond.code yX1_appendGroups cX1_appendGroups 8 none]
def wsX1_appendIfRoom : List Cond := .code yX1_appendIfRoom cX1_appendIfRoom 5 (some .boolean) :: ((wsX1_appendIfRoom_r1 ++ (wsX1_appendIfRoom_r2 ++ (wsX1_appendIfRoom_r3 ++ wsX1_appendIfRoom_r4))) ++ wsX10 ++ wsX00)
def wsX1_put_r1 : List Cond := [Cond.fieldLink RX1 12 "SelfEndingCodes" "row" "LSelfEndingCodes$BitRow;", Cond.methodLink RX1 29 yX1_requireCode, Cond.static yX1_requireCode, Cond.initialized RX1, Cond.code yX1_requireCode cX1_requireCode 2 none, Cond.classLink RX1 52 "java/lang/IllegalArgumentException", Cond.initialized "java/lang/IllegalArgumentException", Cond.methodLink RX1 87 yX1_isCode, Cond.static yX1_isCode, Cond.code yX1_isCode cX1_isCode 2 (some .boolean), Cond.methodLink RX1 93 yX1_leastParameter, Cond.static yX1_leastParameter, Cond.code yX1_leastParameter cX1_leastParameter 1 (some .int), Cond.methodLink RX1 115 yX1_greatestParameter, Cond.static yX1_greatestParameter, Cond.code yX1_greatestParameter cX1_greatestParameter 1 (some .int), Cond.constant RX1 114 (1000000), Cond.methodLink RX1 33 yX1_requireNumber, Cond.static yX1_requireNumber, Cond.code yX1_requireNumber cX1_requireNumber 2 none, Cond.constantLong RX1 106 (4611686018427387904), Cond.methodLink RX1 41 yX1_appendIfRoom, Cond.instanceMethod yX1_appendIfRoom, Cond.selects RX1 yX1_appendIfRoom yX1_appendIfRoom]
def wsX1_put_r2 : List Cond := [Cond.code yX1_appendIfRoom cX1_appendIfRoom 5 (some .boolean), Cond.methodLink RX1 37 yX1_codewordLength, Cond.instanceMethod yX1_codewordLength, Cond.selects RX1 yX1_codewordLength yX1_codewordLength, Cond.code yX1_codewordLength cX1_codewordLength 5 (some .long), Cond.methodLink RX1 124 yX1_gammaLength, Cond.static yX1_gammaLength, Cond.code yX1_gammaLength cX1_gammaLength 2 (some .int), Cond.methodLink RX1 127 yX1_bitLength, Cond.static yX1_bitLength, Cond.code yX1_bitLength cX1_bitLength 2 (some .int), Cond.methodLink RX1 144 yJ13_numberOfLeadingZeros_95d88, Cond.static yJ13_numberOfLeadingZeros_95d88, Cond.initialized RJ13, Cond.code yJ13_numberOfLeadingZeros_95d88 cJ13_numberOfLeadingZeros_95d88 3 (some .int), Cond.methodLink RJ13 308 yJ6_numberOfLeadingZeros_0f7a4, Cond.static yJ6_numberOfLeadingZeros_0f7a4, Cond.initialized RJ6, Cond.code yJ6_numberOfLeadingZeros_0f7a4 cJ6_numberOfLeadingZeros_0f7a4 2 (some .int), Cond.constant RJ6 264 (65536), Cond.methodLink RX1 130 yX1_omegaLength, Cond.static yX1_omegaLength, Cond.code yX1_omegaLength cX1_omegaLength 7 (some .int), Cond.methodLink RX1 133 yX1_fibonacciLength]
def wsX1_put_r3 : List Cond := [Cond.instanceMethod yX1_fibonacciLength, Cond.selects RX1 yX1_fibonacciLength yX1_fibonacciLength, Cond.code yX1_fibonacciLength cX1_fibonacciLength 7 (some .int), Cond.fieldLink RX1 24 "SelfEndingCodes" "fibonacci" "[J", Cond.methodLink RX1 136 yX1_golombLength, Cond.static yX1_golombLength, Cond.code yX1_golombLength cX1_golombLength 8 (some .long), Cond.methodLink RX1 149 yX1_golombWidth, Cond.static yX1_golombWidth, Cond.code yX1_golombWidth cX1_golombWidth 1 (some .int), Cond.methodLink RX1 152 yX1_golombShortRests, Cond.static yX1_golombShortRests, Cond.code yX1_golombShortRests cX1_golombShortRests 2 (some .long), Cond.methodLink RX1 140 yX1_groupsOf, Cond.static yX1_groupsOf, Cond.code yX1_groupsOf cX1_groupsOf 3 (some .int), Cond.methodLink RX1 155 Lib.Math.max.name, Cond.static Lib.Math.max.name, Cond.initialized "java/lang/Math", Cond.code Lib.Math.max.name Lib.Math.max.code 2 (some .int), Cond.methodLink RX1 59 yX0_room, Cond.instanceMethod yX0_room, Cond.selects RX0 yX0_room yX0_room, Cond.initialized RX0]
def wsX1_put_r4 : List Cond := [Cond.code yX0_room cX0_room 1 (some .int), Cond.fieldLink RX0 15 "SelfEndingCodes$BitRow" "end" "I", Cond.methodLink RX1 163 yX1_appendCodeword, Cond.instanceMethod yX1_appendCodeword, Cond.selects RX1 yX1_appendCodeword yX1_appendCodeword, Cond.code yX1_appendCodeword cX1_appendCodeword 5 none, Cond.methodLink RX1 167 yX0_appendOnesAndZero, Cond.instanceMethod yX0_appendOnesAndZero, Cond.selects RX0 yX0_appendOnesAndZero yX0_appendOnesAndZero, Cond.code yX0_appendOnesAndZero cX0_appendOnesAndZero 4 none, Cond.methodLink RX0 35 yX0_setOne, Cond.instanceMethod yX0_setOne, Cond.selects RX0 yX0_setOne yX0_setOne, Cond.code yX0_setOne cX0_setOne 2 none, Cond.fieldLink RX0 9 "SelfEndingCodes$BitRow" "words" "[J", Cond.methodLink RX1 170 yX1_appendGamma, Cond.instanceMethod yX1_appendGamma, Cond.selects RX1 yX1_appendGamma yX1_appendGamma, Cond.code yX1_appendGamma cX1_appendGamma 3 none, Cond.methodLink RX1 63 yX0_appendBits, Cond.instanceMethod yX0_appendBits, Cond.selects RX0 yX0_appendBits yX0_appendBits, Cond.code yX0_appendBits cX0_appendBits 4 none, Cond.methodLink RX0 39 yX0_writeBits]
def wsX1_put_r5 : List Cond := [Cond.instanceMethod yX0_writeBits, Cond.selects RX0 yX0_writeBits yX0_writeBits, Cond.code yX0_writeBits cX0_writeBits 6 none, Cond.methodLink RX1 173 yX1_appendOmega, Cond.instanceMethod yX1_appendOmega, Cond.selects RX1 yX1_appendOmega yX1_appendOmega, Cond.code yX1_appendOmega cX1_appendOmega 9 none, Cond.methodLink RX1 186 yX0_writeBits, Cond.methodLink RX1 176 yX1_appendFibonacci, Cond.instanceMethod yX1_appendFibonacci, Cond.selects RX1 yX1_appendFibonacci yX1_appendFibonacci, Cond.code yX1_appendFibonacci cX1_appendFibonacci 7 none, Cond.methodLink RX1 179 yX1_appendGolomb, Cond.instanceMethod yX1_appendGolomb, Cond.selects RX1 yX1_appendGolomb yX1_appendGolomb, Cond.code yX1_appendGolomb cX1_appendGolomb 9 none, Cond.methodLink RX1 183 yX1_appendGroups, Cond.instanceMethod yX1_appendGroups, Cond.selects RX1 yX1_appendGroups yX1_appendGroups, Cond.code yX1_appendGroups cX1_appendGroups 8 none]
def wsX1_put : List Cond := .code yX1_put cX1_put 5 (some .int) :: ((wsX1_put_r1 ++ (wsX1_put_r2 ++ (wsX1_put_r3 ++ (wsX1_put_r4 ++ wsX1_put_r5)))) ++ wsX10 ++ wsX00 ++ (vx_atS RX1 56 "java/lang/IllegalArgumentException" ["java/lang/RuntimeException", "java/lang/Exception"]).filter goodWord)
def wsX1_numberOrNone : List Cond := .code yX1_numberOrNone cX1_numberOrNone 2 (some .long) :: ([.constantLong RX1 106 (4611686018427387904), .constantLong RX1 97 (-1)])
def wsX1_readGamma_r1 : List Cond := [Cond.fieldLink RX1 12 "SelfEndingCodes" "row" "LSelfEndingCodes$BitRow;", Cond.constantLong RX1 97 (-1), Cond.methodLink RX1 222 yX0_readBit, Cond.instanceMethod yX0_readBit, Cond.selects RX0 yX0_readBit yX0_readBit, Cond.initialized RX0, Cond.code yX0_readBit cX0_readBit 2 (some .int), Cond.fieldLink RX0 22 "SelfEndingCodes$BitRow" "cursor" "I", Cond.methodLink RX0 43 yX0_bitAt, Cond.instanceMethod yX0_bitAt, Cond.selects RX0 yX0_bitAt yX0_bitAt, Cond.code yX0_bitAt cX0_bitAt 3 (some .int), Cond.fieldLink RX0 15 "SelfEndingCodes$BitRow" "end" "I", Cond.fieldLink RX0 9 "SelfEndingCodes$BitRow" "words" "[J", Cond.constantLong RX0 31 (64), Cond.constantLong RX0 33 (63), Cond.methodLink RX1 225 yX0_readBits, Cond.instanceMethod yX0_readBits, Cond.selects RX0 yX0_readBits yX0_readBits, Cond.code yX0_readBits cX0_readBits 7 (some .long), Cond.constantLong RX0 47 (2), Cond.methodLink RX1 229 yX1_numberOrNone, Cond.static yX1_numberOrNone, Cond.initialized RX1]
def wsX1_readGamma_r2 : List Cond := [Cond.code yX1_numberOrNone cX1_numberOrNone 2 (some .long), Cond.constantLong RX1 106 (4611686018427387904)]
def wsX1_readGamma : List Cond := .code yX1_readGamma cX1_readGamma 2 (some .long) :: ((wsX1_readGamma_r1 ++ wsX1_readGamma_r2) ++ wsX10 ++ wsX00)
def wsX1_readDelta_r1 : List Cond := [Cond.constantLong RX1 97 (-1), Cond.constantLong RX1 233 (63), Cond.fieldLink RX1 12 "SelfEndingCodes" "row" "LSelfEndingCodes$BitRow;", Cond.methodLink RX1 199 yX1_readGamma, Cond.instanceMethod yX1_readGamma, Cond.selects RX1 yX1_readGamma yX1_readGamma, Cond.initialized RX1, Cond.code yX1_readGamma cX1_readGamma 2 (some .long), Cond.methodLink RX1 222 yX0_readBit, Cond.instanceMethod yX0_readBit, Cond.selects RX0 yX0_readBit yX0_readBit, Cond.initialized RX0, Cond.code yX0_readBit cX0_readBit 2 (some .int), Cond.fieldLink RX0 22 "SelfEndingCodes$BitRow" "cursor" "I", Cond.methodLink RX0 43 yX0_bitAt, Cond.instanceMethod yX0_bitAt, Cond.selects RX0 yX0_bitAt yX0_bitAt, Cond.code yX0_bitAt cX0_bitAt 3 (some .int), Cond.fieldLink RX0 15 "SelfEndingCodes$BitRow" "end" "I", Cond.fieldLink RX0 9 "SelfEndingCodes$BitRow" "words" "[J", Cond.constantLong RX0 31 (64), Cond.constantLong RX0 33 (63), Cond.methodLink RX1 225 yX0_readBits, Cond.instanceMethod yX0_readBits]
def wsX1_readDelta_r2 : List Cond := [Cond.selects RX0 yX0_readBits yX0_readBits, Cond.code yX0_readBits cX0_readBits 7 (some .long), Cond.constantLong RX0 47 (2), Cond.methodLink RX1 229 yX1_numberOrNone, Cond.static yX1_numberOrNone, Cond.code yX1_numberOrNone cX1_numberOrNone 2 (some .long), Cond.constantLong RX1 106 (4611686018427387904)]
def wsX1_readDelta : List Cond := .code yX1_readDelta cX1_readDelta 3 (some .long) :: ((wsX1_readDelta_r1 ++ wsX1_readDelta_r2) ++ wsX10 ++ wsX00)
def wsX1_readOmega_r1 : List Cond := [Cond.fieldLink RX1 12 "SelfEndingCodes" "row" "LSelfEndingCodes$BitRow;", Cond.constantLong RX1 233 (63), Cond.constantLong RX1 97 (-1), Cond.methodLink RX1 222 yX0_readBit, Cond.instanceMethod yX0_readBit, Cond.selects RX0 yX0_readBit yX0_readBit, Cond.initialized RX0, Cond.code yX0_readBit cX0_readBit 2 (some .int), Cond.fieldLink RX0 22 "SelfEndingCodes$BitRow" "cursor" "I", Cond.methodLink RX0 43 yX0_bitAt, Cond.instanceMethod yX0_bitAt, Cond.selects RX0 yX0_bitAt yX0_bitAt, Cond.code yX0_bitAt cX0_bitAt 3 (some .int), Cond.fieldLink RX0 15 "SelfEndingCodes$BitRow" "end" "I", Cond.fieldLink RX0 9 "SelfEndingCodes$BitRow" "words" "[J", Cond.constantLong RX0 31 (64), Cond.constantLong RX0 33 (63), Cond.methodLink RX1 229 yX1_numberOrNone, Cond.static yX1_numberOrNone, Cond.initialized RX1, Cond.code yX1_numberOrNone cX1_numberOrNone 2 (some .long), Cond.constantLong RX1 106 (4611686018427387904), Cond.methodLink RX1 225 yX0_readBits, Cond.instanceMethod yX0_readBits]
def wsX1_readOmega_r2 : List Cond := [Cond.selects RX0 yX0_readBits yX0_readBits, Cond.code yX0_readBits cX0_readBits 7 (some .long), Cond.constantLong RX0 47 (2)]
def wsX1_readOmega : List Cond := .code yX1_readOmega cX1_readOmega 4 (some .long) :: ((wsX1_readOmega_r1 ++ wsX1_readOmega_r2) ++ wsX10 ++ wsX00)
def wsX1_readFibonacci : List Cond := .code yX1_readFibonacci cX1_readFibonacci 6 (some .long) :: ([.fieldLink RX1 12 "SelfEndingCodes" "row" "LSelfEndingCodes$BitRow;", .fieldLink RX1 24 "SelfEndingCodes" "fibonacci" "[J", .constantLong RX1 97 (-1), .methodLink RX1 222 yX0_readBit, .instanceMethod yX0_readBit, .selects RX0 yX0_readBit yX0_readBit, .initialized RX0, .code yX0_readBit cX0_readBit 2 (some .int), .fieldLink RX0 22 "SelfEndingCodes$BitRow" "cursor" "I", .methodLink RX0 43 yX0_bitAt, .instanceMethod yX0_bitAt, .selects RX0 yX0_bitAt yX0_bitAt, .code yX0_bitAt cX0_bitAt 3 (some .int), .fieldLink RX0 15 "SelfEndingCodes$BitRow" "end" "I", .fieldLink RX0 9 "SelfEndingCodes$BitRow" "words" "[J", .constantLong RX0 31 (64), .constantLong RX0 33 (63), .methodLink RX1 229 yX1_numberOrNone, .static yX1_numberOrNone, .initialized RX1, .code yX1_numberOrNone cX1_numberOrNone 2 (some .long), .constantLong RX1 106 (4611686018427387904)] ++ wsX10 ++ wsX00)
def wsX1_readGolomb_r1 : List Cond := [Cond.fieldLink RX1 12 "SelfEndingCodes" "row" "LSelfEndingCodes$BitRow;", Cond.constantLong RX1 27 (2), Cond.methodLink RX1 196 yX0_readOnesAndZero, Cond.instanceMethod yX0_readOnesAndZero, Cond.selects RX0 yX0_readOnesAndZero yX0_readOnesAndZero, Cond.initialized RX0, Cond.code yX0_readOnesAndZero cX0_readOnesAndZero 2 (some .int), Cond.methodLink RX0 49 yX0_readBit, Cond.instanceMethod yX0_readBit, Cond.selects RX0 yX0_readBit yX0_readBit, Cond.code yX0_readBit cX0_readBit 2 (some .int), Cond.fieldLink RX0 22 "SelfEndingCodes$BitRow" "cursor" "I", Cond.methodLink RX0 43 yX0_bitAt, Cond.instanceMethod yX0_bitAt, Cond.selects RX0 yX0_bitAt yX0_bitAt, Cond.code yX0_bitAt cX0_bitAt 3 (some .int), Cond.fieldLink RX0 15 "SelfEndingCodes$BitRow" "end" "I", Cond.fieldLink RX0 9 "SelfEndingCodes$BitRow" "words" "[J", Cond.constantLong RX0 31 (64), Cond.constantLong RX0 33 (63), Cond.methodLink RX1 149 yX1_golombWidth, Cond.static yX1_golombWidth, Cond.initialized RX1, Cond.code yX1_golombWidth cX1_golombWidth 1 (some .int)]
def wsX1_readGolomb_r2 : List Cond := [Cond.methodLink RX1 127 yX1_bitLength, Cond.static yX1_bitLength, Cond.code yX1_bitLength cX1_bitLength 2 (some .int), Cond.methodLink RX1 144 yJ13_numberOfLeadingZeros_95d88, Cond.static yJ13_numberOfLeadingZeros_95d88, Cond.initialized RJ13, Cond.code yJ13_numberOfLeadingZeros_95d88 cJ13_numberOfLeadingZeros_95d88 3 (some .int), Cond.methodLink RJ13 308 yJ6_numberOfLeadingZeros_0f7a4, Cond.static yJ6_numberOfLeadingZeros_0f7a4, Cond.initialized RJ6, Cond.code yJ6_numberOfLeadingZeros_0f7a4 cJ6_numberOfLeadingZeros_0f7a4 2 (some .int), Cond.constant RJ6 264 (65536), Cond.methodLink RX1 152 yX1_golombShortRests, Cond.static yX1_golombShortRests, Cond.code yX1_golombShortRests cX1_golombShortRests 2 (some .long), Cond.methodLink RX1 225 yX0_readBits, Cond.instanceMethod yX0_readBits, Cond.selects RX0 yX0_readBits yX0_readBits, Cond.code yX0_readBits cX0_readBits 7 (some .long), Cond.constantLong RX0 47 (2), Cond.methodLink RX1 222 yX0_readBit]
def wsX1_readGolomb : List Cond := .code yX1_readGolomb cX1_readGolomb 9 (some .long) :: ((wsX1_readGolomb_r1 ++ wsX1_readGolomb_r2) ++ wsX10 ++ wsX00)
def wsX1_readExpGolomb_r1 : List Cond := [Cond.constantLong RX1 97 (-1), Cond.fieldLink RX1 12 "SelfEndingCodes" "row" "LSelfEndingCodes$BitRow;", Cond.methodLink RX1 199 yX1_readGamma, Cond.instanceMethod yX1_readGamma, Cond.selects RX1 yX1_readGamma yX1_readGamma, Cond.initialized RX1, Cond.code yX1_readGamma cX1_readGamma 2 (some .long), Cond.methodLink RX1 222 yX0_readBit, Cond.instanceMethod yX0_readBit, Cond.selects RX0 yX0_readBit yX0_readBit, Cond.initialized RX0, Cond.code yX0_readBit cX0_readBit 2 (some .int), Cond.fieldLink RX0 22 "SelfEndingCodes$BitRow" "cursor" "I", Cond.methodLink RX0 43 yX0_bitAt, Cond.instanceMethod yX0_bitAt, Cond.selects RX0 yX0_bitAt yX0_bitAt, Cond.code yX0_bitAt cX0_bitAt 3 (some .int), Cond.fieldLink RX0 15 "SelfEndingCodes$BitRow" "end" "I", Cond.fieldLink RX0 9 "SelfEndingCodes$BitRow" "words" "[J", Cond.constantLong RX0 31 (64), Cond.constantLong RX0 33 (63), Cond.methodLink RX1 225 yX0_readBits, Cond.instanceMethod yX0_readBits, Cond.selects RX0 yX0_readBits yX0_readBits]
def wsX1_readExpGolomb_r2 : List Cond := [Cond.code yX0_readBits cX0_readBits 7 (some .long), Cond.constantLong RX0 47 (2), Cond.methodLink RX1 229 yX1_numberOrNone, Cond.static yX1_numberOrNone, Cond.code yX1_numberOrNone cX1_numberOrNone 2 (some .long), Cond.constantLong RX1 106 (4611686018427387904)]
def wsX1_readExpGolomb : List Cond := .code yX1_readExpGolomb cX1_readExpGolomb 4 (some .long) :: ((wsX1_readExpGolomb_r1 ++ wsX1_readExpGolomb_r2) ++ wsX10 ++ wsX00)
def wsX1_readGroups : List Cond := .code yX1_readGroups cX1_readGroups 9 (some .long) :: ([.fieldLink RX1 12 "SelfEndingCodes" "row" "LSelfEndingCodes$BitRow;", .constantLong RX1 97 (-1), .methodLink RX1 222 yX0_readBit, .instanceMethod yX0_readBit, .selects RX0 yX0_readBit yX0_readBit, .initialized RX0, .code yX0_readBit cX0_readBit 2 (some .int), .fieldLink RX0 22 "SelfEndingCodes$BitRow" "cursor" "I", .methodLink RX0 43 yX0_bitAt, .instanceMethod yX0_bitAt, .selects RX0 yX0_bitAt yX0_bitAt, .code yX0_bitAt cX0_bitAt 3 (some .int), .fieldLink RX0 15 "SelfEndingCodes$BitRow" "end" "I", .fieldLink RX0 9 "SelfEndingCodes$BitRow" "words" "[J", .constantLong RX0 31 (64), .constantLong RX0 33 (63), .methodLink RX1 225 yX0_readBits, .instanceMethod yX0_readBits, .selects RX0 yX0_readBits yX0_readBits, .code yX0_readBits cX0_readBits 7 (some .long), .constantLong RX0 47 (2)] ++ wsX10 ++ wsX00)
def wsX1_readCodeword_r1 : List Cond := [Cond.fieldLink RX1 12 "SelfEndingCodes" "row" "LSelfEndingCodes$BitRow;", Cond.methodLink RX1 196 yX0_readOnesAndZero, Cond.instanceMethod yX0_readOnesAndZero, Cond.selects RX0 yX0_readOnesAndZero yX0_readOnesAndZero, Cond.initialized RX0, Cond.code yX0_readOnesAndZero cX0_readOnesAndZero 2 (some .int), Cond.methodLink RX0 49 yX0_readBit, Cond.instanceMethod yX0_readBit, Cond.selects RX0 yX0_readBit yX0_readBit, Cond.code yX0_readBit cX0_readBit 2 (some .int), Cond.fieldLink RX0 22 "SelfEndingCodes$BitRow" "cursor" "I", Cond.methodLink RX0 43 yX0_bitAt, Cond.instanceMethod yX0_bitAt, Cond.selects RX0 yX0_bitAt yX0_bitAt, Cond.code yX0_bitAt cX0_bitAt 3 (some .int), Cond.fieldLink RX0 15 "SelfEndingCodes$BitRow" "end" "I", Cond.fieldLink RX0 9 "SelfEndingCodes$BitRow" "words" "[J", Cond.constantLong RX0 31 (64), Cond.constantLong RX0 33 (63), Cond.methodLink RX1 199 yX1_readGamma, Cond.instanceMethod yX1_readGamma, Cond.selects RX1 yX1_readGamma yX1_readGamma, Cond.initialized RX1, Cond.code yX1_readGamma cX1_readGamma 2 (some .long)]
def wsX1_readCodeword_r2 : List Cond := [Cond.constantLong RX1 97 (-1), Cond.methodLink RX1 222 yX0_readBit, Cond.methodLink RX1 225 yX0_readBits, Cond.instanceMethod yX0_readBits, Cond.selects RX0 yX0_readBits yX0_readBits, Cond.code yX0_readBits cX0_readBits 7 (some .long), Cond.constantLong RX0 47 (2), Cond.methodLink RX1 229 yX1_numberOrNone, Cond.static yX1_numberOrNone, Cond.code yX1_numberOrNone cX1_numberOrNone 2 (some .long), Cond.constantLong RX1 106 (4611686018427387904), Cond.methodLink RX1 203 yX1_readDelta, Cond.instanceMethod yX1_readDelta, Cond.selects RX1 yX1_readDelta yX1_readDelta, Cond.code yX1_readDelta cX1_readDelta 3 (some .long), Cond.constantLong RX1 233 (63), Cond.methodLink RX1 206 yX1_readOmega, Cond.instanceMethod yX1_readOmega, Cond.selects RX1 yX1_readOmega yX1_readOmega, Cond.code yX1_readOmega cX1_readOmega 4 (some .long), Cond.methodLink RX1 209 yX1_readFibonacci, Cond.instanceMethod yX1_readFibonacci, Cond.selects RX1 yX1_readFibonacci yX1_readFibonacci, Cond.code yX1_readFibonacci cX1_readFibonacci 6 (some .long)]
def wsX1_readCodeword_r3 : List Cond := [Cond.fieldLink RX1 24 "SelfEndingCodes" "fibonacci" "[J", Cond.methodLink RX1 212 yX1_readGolomb, Cond.instanceMethod yX1_readGolomb, Cond.selects RX1 yX1_readGolomb yX1_readGolomb, Cond.code yX1_readGolomb cX1_readGolomb 9 (some .long), Cond.constantLong RX1 27 (2), Cond.methodLink RX1 149 yX1_golombWidth, Cond.static yX1_golombWidth, Cond.code yX1_golombWidth cX1_golombWidth 1 (some .int), Cond.methodLink RX1 127 yX1_bitLength, Cond.static yX1_bitLength, Cond.code yX1_bitLength cX1_bitLength 2 (some .int), Cond.methodLink RX1 144 yJ13_numberOfLeadingZeros_95d88, Cond.static yJ13_numberOfLeadingZeros_95d88, Cond.initialized RJ13, Cond.code yJ13_numberOfLeadingZeros_95d88 cJ13_numberOfLeadingZeros_95d88 3 (some .int), Cond.methodLink RJ13 308 yJ6_numberOfLeadingZeros_0f7a4, Cond.static yJ6_numberOfLeadingZeros_0f7a4, Cond.initialized RJ6, Cond.code yJ6_numberOfLeadingZeros_0f7a4 cJ6_numberOfLeadingZeros_0f7a4 2 (some .int), Cond.constant RJ6 264 (65536), Cond.methodLink RX1 152 yX1_golombShortRests, Cond.static yX1_golombShortRests, Cond.code yX1_golombShortRests cX1_golombShortRests 2 (some .long)]
def wsX1_readCodeword_r4 : List Cond := [Cond.methodLink RX1 216 yX1_readExpGolomb, Cond.instanceMethod yX1_readExpGolomb, Cond.selects RX1 yX1_readExpGolomb yX1_readExpGolomb, Cond.code yX1_readExpGolomb cX1_readExpGolomb 4 (some .long), Cond.methodLink RX1 219 yX1_readGroups, Cond.instanceMethod yX1_readGroups, Cond.selects RX1 yX1_readGroups yX1_readGroups, Cond.code yX1_readGroups cX1_readGroups 9 (some .long)]
def wsX1_readCodeword : List Cond := .code yX1_readCodeword cX1_readCodeword 3 (some .long) :: ((wsX1_readCodeword_r1 ++ (wsX1_readCodeword_r2 ++ (wsX1_readCodeword_r3 ++ wsX1_readCodeword_r4))) ++ wsX10 ++ wsX00)
def wsX1_readNext_r1 : List Cond := [Cond.fieldLink RX1 12 "SelfEndingCodes" "row" "LSelfEndingCodes$BitRow;", Cond.constantLong RX1 97 (-1), Cond.methodLink RX1 193 yX1_readCodeword, Cond.instanceMethod yX1_readCodeword, Cond.selects RX1 yX1_readCodeword yX1_readCodeword, Cond.initialized RX1, Cond.code yX1_readCodeword cX1_readCodeword 3 (some .long), Cond.methodLink RX1 196 yX0_readOnesAndZero, Cond.instanceMethod yX0_readOnesAndZero, Cond.selects RX0 yX0_readOnesAndZero yX0_readOnesAndZero, Cond.initialized RX0, Cond.code yX0_readOnesAndZero cX0_readOnesAndZero 2 (some .int), Cond.methodLink RX0 49 yX0_readBit, Cond.instanceMethod yX0_readBit, Cond.selects RX0 yX0_readBit yX0_readBit, Cond.code yX0_readBit cX0_readBit 2 (some .int), Cond.fieldLink RX0 22 "SelfEndingCodes$BitRow" "cursor" "I", Cond.methodLink RX0 43 yX0_bitAt, Cond.instanceMethod yX0_bitAt, Cond.selects RX0 yX0_bitAt yX0_bitAt, Cond.code yX0_bitAt cX0_bitAt 3 (some .int), Cond.fieldLink RX0 15 "SelfEndingCodes$BitRow" "end" "I", Cond.fieldLink RX0 9 "SelfEndingCodes$BitRow" "words" "[J", Cond.constantLong RX0 31 (64)]
def wsX1_readNext_r2 : List Cond := [Cond.constantLong RX0 33 (63), Cond.methodLink RX1 199 yX1_readGamma, Cond.instanceMethod yX1_readGamma, Cond.selects RX1 yX1_readGamma yX1_readGamma, Cond.code yX1_readGamma cX1_readGamma 2 (some .long), Cond.methodLink RX1 222 yX0_readBit, Cond.methodLink RX1 225 yX0_readBits, Cond.instanceMethod yX0_readBits, Cond.selects RX0 yX0_readBits yX0_readBits, Cond.code yX0_readBits cX0_readBits 7 (some .long), Cond.constantLong RX0 47 (2), Cond.methodLink RX1 229 yX1_numberOrNone, Cond.static yX1_numberOrNone, Cond.code yX1_numberOrNone cX1_numberOrNone 2 (some .long), Cond.constantLong RX1 106 (4611686018427387904), Cond.methodLink RX1 203 yX1_readDelta, Cond.instanceMethod yX1_readDelta, Cond.selects RX1 yX1_readDelta yX1_readDelta, Cond.code yX1_readDelta cX1_readDelta 3 (some .long), Cond.constantLong RX1 233 (63), Cond.methodLink RX1 206 yX1_readOmega, Cond.instanceMethod yX1_readOmega, Cond.selects RX1 yX1_readOmega yX1_readOmega, Cond.code yX1_readOmega cX1_readOmega 4 (some .long)]
def wsX1_readNext_r3 : List Cond := [Cond.methodLink RX1 209 yX1_readFibonacci, Cond.instanceMethod yX1_readFibonacci, Cond.selects RX1 yX1_readFibonacci yX1_readFibonacci, Cond.code yX1_readFibonacci cX1_readFibonacci 6 (some .long), Cond.fieldLink RX1 24 "SelfEndingCodes" "fibonacci" "[J", Cond.methodLink RX1 212 yX1_readGolomb, Cond.instanceMethod yX1_readGolomb, Cond.selects RX1 yX1_readGolomb yX1_readGolomb, Cond.code yX1_readGolomb cX1_readGolomb 9 (some .long), Cond.constantLong RX1 27 (2), Cond.methodLink RX1 149 yX1_golombWidth, Cond.static yX1_golombWidth, Cond.code yX1_golombWidth cX1_golombWidth 1 (some .int), Cond.methodLink RX1 127 yX1_bitLength, Cond.static yX1_bitLength, Cond.code yX1_bitLength cX1_bitLength 2 (some .int), Cond.methodLink RX1 144 yJ13_numberOfLeadingZeros_95d88, Cond.static yJ13_numberOfLeadingZeros_95d88, Cond.initialized RJ13, Cond.code yJ13_numberOfLeadingZeros_95d88 cJ13_numberOfLeadingZeros_95d88 3 (some .int), Cond.methodLink RJ13 308 yJ6_numberOfLeadingZeros_0f7a4, Cond.static yJ6_numberOfLeadingZeros_0f7a4, Cond.initialized RJ6, Cond.code yJ6_numberOfLeadingZeros_0f7a4 cJ6_numberOfLeadingZeros_0f7a4 2 (some .int)]
def wsX1_readNext_r4 : List Cond := [Cond.constant RJ6 264 (65536), Cond.methodLink RX1 152 yX1_golombShortRests, Cond.static yX1_golombShortRests, Cond.code yX1_golombShortRests cX1_golombShortRests 2 (some .long), Cond.methodLink RX1 216 yX1_readExpGolomb, Cond.instanceMethod yX1_readExpGolomb, Cond.selects RX1 yX1_readExpGolomb yX1_readExpGolomb, Cond.code yX1_readExpGolomb cX1_readExpGolomb 4 (some .long), Cond.methodLink RX1 219 yX1_readGroups, Cond.instanceMethod yX1_readGroups, Cond.selects RX1 yX1_readGroups yX1_readGroups, Cond.code yX1_readGroups cX1_readGroups 9 (some .long)]
def wsX1_readNext : List Cond := .code yX1_readNext cX1_readNext 5 (some .long) :: ((wsX1_readNext_r1 ++ (wsX1_readNext_r2 ++ (wsX1_readNext_r3 ++ wsX1_readNext_r4))) ++ wsX10 ++ wsX00)
def wsX1_take_r1 : List Cond := [Cond.methodLink RX1 29 yX1_requireCode, Cond.static yX1_requireCode, Cond.initialized RX1, Cond.code yX1_requireCode cX1_requireCode 2 none, Cond.classLink RX1 52 "java/lang/IllegalArgumentException", Cond.initialized "java/lang/IllegalArgumentException", Cond.methodLink RX1 87 yX1_isCode, Cond.static yX1_isCode, Cond.code yX1_isCode cX1_isCode 2 (some .boolean), Cond.methodLink RX1 93 yX1_leastParameter, Cond.static yX1_leastParameter, Cond.code yX1_leastParameter cX1_leastParameter 1 (some .int), Cond.methodLink RX1 115 yX1_greatestParameter, Cond.static yX1_greatestParameter, Cond.code yX1_greatestParameter cX1_greatestParameter 1 (some .int), Cond.constant RX1 114 (1000000), Cond.methodLink RX1 48 yX1_readNext, Cond.instanceMethod yX1_readNext, Cond.selects RX1 yX1_readNext yX1_readNext, Cond.code yX1_readNext cX1_readNext 5 (some .long), Cond.fieldLink RX1 12 "SelfEndingCodes" "row" "LSelfEndingCodes$BitRow;", Cond.constantLong RX1 97 (-1), Cond.methodLink RX1 193 yX1_readCodeword, Cond.instanceMethod yX1_readCodeword]
def wsX1_take_r2 : List Cond := [Cond.selects RX1 yX1_readCodeword yX1_readCodeword, Cond.code yX1_readCodeword cX1_readCodeword 3 (some .long), Cond.methodLink RX1 196 yX0_readOnesAndZero, Cond.instanceMethod yX0_readOnesAndZero, Cond.selects RX0 yX0_readOnesAndZero yX0_readOnesAndZero, Cond.initialized RX0, Cond.code yX0_readOnesAndZero cX0_readOnesAndZero 2 (some .int), Cond.methodLink RX0 49 yX0_readBit, Cond.instanceMethod yX0_readBit, Cond.selects RX0 yX0_readBit yX0_readBit, Cond.code yX0_readBit cX0_readBit 2 (some .int), Cond.fieldLink RX0 22 "SelfEndingCodes$BitRow" "cursor" "I", Cond.methodLink RX0 43 yX0_bitAt, Cond.instanceMethod yX0_bitAt, Cond.selects RX0 yX0_bitAt yX0_bitAt, Cond.code yX0_bitAt cX0_bitAt 3 (some .int), Cond.fieldLink RX0 15 "SelfEndingCodes$BitRow" "end" "I", Cond.fieldLink RX0 9 "SelfEndingCodes$BitRow" "words" "[J", Cond.constantLong RX0 31 (64), Cond.constantLong RX0 33 (63), Cond.methodLink RX1 199 yX1_readGamma, Cond.instanceMethod yX1_readGamma, Cond.selects RX1 yX1_readGamma yX1_readGamma, Cond.code yX1_readGamma cX1_readGamma 2 (some .long)]
def wsX1_take_r3 : List Cond := [Cond.methodLink RX1 222 yX0_readBit, Cond.methodLink RX1 225 yX0_readBits, Cond.instanceMethod yX0_readBits, Cond.selects RX0 yX0_readBits yX0_readBits, Cond.code yX0_readBits cX0_readBits 7 (some .long), Cond.constantLong RX0 47 (2), Cond.methodLink RX1 229 yX1_numberOrNone, Cond.static yX1_numberOrNone, Cond.code yX1_numberOrNone cX1_numberOrNone 2 (some .long), Cond.constantLong RX1 106 (4611686018427387904), Cond.methodLink RX1 203 yX1_readDelta, Cond.instanceMethod yX1_readDelta, Cond.selects RX1 yX1_readDelta yX1_readDelta, Cond.code yX1_readDelta cX1_readDelta 3 (some .long), Cond.constantLong RX1 233 (63), Cond.methodLink RX1 206 yX1_readOmega, Cond.instanceMethod yX1_readOmega, Cond.selects RX1 yX1_readOmega yX1_readOmega, Cond.code yX1_readOmega cX1_readOmega 4 (some .long), Cond.methodLink RX1 209 yX1_readFibonacci, Cond.instanceMethod yX1_readFibonacci, Cond.selects RX1 yX1_readFibonacci yX1_readFibonacci, Cond.code yX1_readFibonacci cX1_readFibonacci 6 (some .long), Cond.fieldLink RX1 24 "SelfEndingCodes" "fibonacci" "[J"]
def wsX1_take_r4 : List Cond := [Cond.methodLink RX1 212 yX1_readGolomb, Cond.instanceMethod yX1_readGolomb, Cond.selects RX1 yX1_readGolomb yX1_readGolomb, Cond.code yX1_readGolomb cX1_readGolomb 9 (some .long), Cond.constantLong RX1 27 (2), Cond.methodLink RX1 149 yX1_golombWidth, Cond.static yX1_golombWidth, Cond.code yX1_golombWidth cX1_golombWidth 1 (some .int), Cond.methodLink RX1 127 yX1_bitLength, Cond.static yX1_bitLength, Cond.code yX1_bitLength cX1_bitLength 2 (some .int), Cond.methodLink RX1 144 yJ13_numberOfLeadingZeros_95d88, Cond.static yJ13_numberOfLeadingZeros_95d88, Cond.initialized RJ13, Cond.code yJ13_numberOfLeadingZeros_95d88 cJ13_numberOfLeadingZeros_95d88 3 (some .int), Cond.methodLink RJ13 308 yJ6_numberOfLeadingZeros_0f7a4, Cond.static yJ6_numberOfLeadingZeros_0f7a4, Cond.initialized RJ6, Cond.code yJ6_numberOfLeadingZeros_0f7a4 cJ6_numberOfLeadingZeros_0f7a4 2 (some .int), Cond.constant RJ6 264 (65536), Cond.methodLink RX1 152 yX1_golombShortRests, Cond.static yX1_golombShortRests, Cond.code yX1_golombShortRests cX1_golombShortRests 2 (some .long), Cond.methodLink RX1 216 yX1_readExpGolomb]
def wsX1_take_r5 : List Cond := [Cond.instanceMethod yX1_readExpGolomb, Cond.selects RX1 yX1_readExpGolomb yX1_readExpGolomb, Cond.code yX1_readExpGolomb cX1_readExpGolomb 4 (some .long), Cond.methodLink RX1 219 yX1_readGroups, Cond.instanceMethod yX1_readGroups, Cond.selects RX1 yX1_readGroups yX1_readGroups, Cond.code yX1_readGroups cX1_readGroups 9 (some .long)]
def wsX1_take : List Cond := .code yX1_take cX1_take 3 (some .long) :: ((wsX1_take_r1 ++ (wsX1_take_r2 ++ (wsX1_take_r3 ++ (wsX1_take_r4 ++ wsX1_take_r5)))) ++ wsX10 ++ wsX00 ++ (vx_atS RX1 56 "java/lang/IllegalArgumentException" ["java/lang/RuntimeException", "java/lang/Exception"]).filter goodWord)
def wsX1_push : List Cond := .code yX1_push cX1_push 4 (some .int) :: ([.classLink RX1 52 "java/lang/IllegalArgumentException", .initialized "java/lang/IllegalArgumentException", .fieldLink RX1 12 "SelfEndingCodes" "row" "LSelfEndingCodes$BitRow;", .methodLink RX1 59 yX0_room, .instanceMethod yX0_room, .selects RX0 yX0_room yX0_room, .initialized RX0, .code yX0_room cX0_room 1 (some .int), .fieldLink RX0 15 "SelfEndingCodes$BitRow" "end" "I", .methodLink RX1 63 yX0_appendBits, .instanceMethod yX0_appendBits, .selects RX0 yX0_appendBits yX0_appendBits, .code yX0_appendBits cX0_appendBits 4 none, .methodLink RX0 39 yX0_writeBits, .instanceMethod yX0_writeBits, .selects RX0 yX0_writeBits yX0_writeBits, .code yX0_writeBits cX0_writeBits 6 none, .methodLink RX0 35 yX0_setOne, .instanceMethod yX0_setOne, .selects RX0 yX0_setOne yX0_setOne, .code yX0_setOne cX0_setOne 2 none, .fieldLink RX0 9 "SelfEndingCodes$BitRow" "words" "[J"] ++ wsX10 ++ wsX00 ++ (vx_atS RX1 56 "java/lang/IllegalArgumentException" ["java/lang/RuntimeException", "java/lang/Exception"]).filter goodWord)
def wsX1_bits : List Cond := .code yX1_bits cX1_bits 5 (some .long) :: ([.fieldLink RX1 12 "SelfEndingCodes" "row" "LSelfEndingCodes$BitRow;", .methodLink RX1 67 yX0_bitAt, .instanceMethod yX0_bitAt, .selects RX0 yX0_bitAt yX0_bitAt, .initialized RX0, .code yX0_bitAt cX0_bitAt 3 (some .int), .fieldLink RX0 15 "SelfEndingCodes$BitRow" "end" "I", .fieldLink RX0 9 "SelfEndingCodes$BitRow" "words" "[J", .constantLong RX0 31 (64), .constantLong RX0 33 (63)] ++ wsX10 ++ wsX00)
def wsX1_size : List Cond := .code yX1_size cX1_size 1 (some .int) :: ([.fieldLink RX1 12 "SelfEndingCodes" "row" "LSelfEndingCodes$BitRow;"] ++ wsX10 ++ wsX00)
def wsX1_place : List Cond := .code yX1_place cX1_place 1 (some .int) :: ([.fieldLink RX1 12 "SelfEndingCodes" "row" "LSelfEndingCodes$BitRow;"] ++ wsX10 ++ wsX00)
def wsX1_seek : List Cond := .code yX1_seek cX1_seek 2 none :: ([.classLink RX1 74 "java/lang/IndexOutOfBoundsException", .initialized "java/lang/IndexOutOfBoundsException", .fieldLink RX1 12 "SelfEndingCodes" "row" "LSelfEndingCodes$BitRow;"] ++ wsX10 ++ wsX00 ++ (vx_atS RX1 78 "java/lang/IndexOutOfBoundsException" ["java/lang/RuntimeException", "java/lang/Exception"]).filter goodWord)
def wsX1_wipe : List Cond := .code yX1_wipe cX1_wipe 2 (some .int) :: ([.fieldLink RX1 12 "SelfEndingCodes" "row" "LSelfEndingCodes$BitRow;", .methodLink RX1 79 yX0_makeEmpty, .instanceMethod yX0_makeEmpty, .selects RX0 yX0_makeEmpty yX0_makeEmpty, .initialized RX0, .code yX0_makeEmpty cX0_makeEmpty 1 none, .fieldLink RX0 9 "SelfEndingCodes$BitRow" "words" "[J", .fieldLink RX0 15 "SelfEndingCodes$BitRow" "end" "I", .fieldLink RX0 19 "SelfEndingCodes$BitRow" "place" "I", .methodLink RX0 25 yJ7_fill_d0a16, .static yJ7_fill_d0a16, .initialized RJ7, .code yJ7_fill_d0a16 cJ7_fill_d0a16 5 none] ++ wsX10 ++ wsX00)
def wsX1_add : List Cond := .code yX1_add cX1_add 3 (some .int) :: ([.fieldLink RX1 20 "SelfEndingCodes" "listed" "I", .fieldLink RX1 16 "SelfEndingCodes" "list" "[J", .methodLink RX1 33 yX1_requireNumber, .static yX1_requireNumber, .initialized RX1, .code yX1_requireNumber cX1_requireNumber 2 none, .classLink RX1 52 "java/lang/IllegalArgumentException", .initialized "java/lang/IllegalArgumentException", .constantLong RX1 106 (4611686018427387904)] ++ wsX10 ++ (vx_atS RX1 56 "java/lang/IllegalArgumentException" ["java/lang/RuntimeException", "java/lang/Exception"]).filter goodWord)
def wsX1_get : List Cond := .code yX1_get cX1_get 2 (some .long) :: ([.classLink RX1 74 "java/lang/IndexOutOfBoundsException", .initialized "java/lang/IndexOutOfBoundsException", .fieldLink RX1 20 "SelfEndingCodes" "listed" "I", .fieldLink RX1 16 "SelfEndingCodes" "list" "[J"] ++ wsX10 ++ (vx_atS RX1 78 "java/lang/IndexOutOfBoundsException" ["java/lang/RuntimeException", "java/lang/Exception"]).filter goodWord)
def wsX1_clear : List Cond := .code yX1_clear cX1_clear 2 (some .int) :: ([.fieldLink RX1 20 "SelfEndingCodes" "listed" "I"] ++ wsX10)
def wsX1_listLength_r1 : List Cond := [Cond.fieldLink RX1 20 "SelfEndingCodes" "listed" "I", Cond.fieldLink RX1 16 "SelfEndingCodes" "list" "[J", Cond.constantLong RX1 106 (4611686018427387904), Cond.methodLink RX1 37 yX1_codewordLength, Cond.instanceMethod yX1_codewordLength, Cond.selects RX1 yX1_codewordLength yX1_codewordLength, Cond.initialized RX1, Cond.code yX1_codewordLength cX1_codewordLength 5 (some .long), Cond.methodLink RX1 124 yX1_gammaLength, Cond.static yX1_gammaLength, Cond.code yX1_gammaLength cX1_gammaLength 2 (some .int), Cond.methodLink RX1 127 yX1_bitLength, Cond.static yX1_bitLength, Cond.code yX1_bitLength cX1_bitLength 2 (some .int), Cond.methodLink RX1 144 yJ13_numberOfLeadingZeros_95d88, Cond.static yJ13_numberOfLeadingZeros_95d88, Cond.initialized RJ13, Cond.code yJ13_numberOfLeadingZeros_95d88 cJ13_numberOfLeadingZeros_95d88 3 (some .int), Cond.methodLink RJ13 308 yJ6_numberOfLeadingZeros_0f7a4, Cond.static yJ6_numberOfLeadingZeros_0f7a4, Cond.initialized RJ6, Cond.code yJ6_numberOfLeadingZeros_0f7a4 cJ6_numberOfLeadingZeros_0f7a4 2 (some .int), Cond.constant RJ6 264 (65536), Cond.methodLink RX1 130 yX1_omegaLength]
def wsX1_listLength_r2 : List Cond := [Cond.static yX1_omegaLength, Cond.code yX1_omegaLength cX1_omegaLength 7 (some .int), Cond.methodLink RX1 133 yX1_fibonacciLength, Cond.instanceMethod yX1_fibonacciLength, Cond.selects RX1 yX1_fibonacciLength yX1_fibonacciLength, Cond.code yX1_fibonacciLength cX1_fibonacciLength 7 (some .int), Cond.fieldLink RX1 24 "SelfEndingCodes" "fibonacci" "[J", Cond.methodLink RX1 136 yX1_golombLength, Cond.static yX1_golombLength, Cond.code yX1_golombLength cX1_golombLength 8 (some .long), Cond.methodLink RX1 149 yX1_golombWidth, Cond.static yX1_golombWidth, Cond.code yX1_golombWidth cX1_golombWidth 1 (some .int), Cond.methodLink RX1 152 yX1_golombShortRests, Cond.static yX1_golombShortRests, Cond.code yX1_golombShortRests cX1_golombShortRests 2 (some .long), Cond.methodLink RX1 140 yX1_groupsOf, Cond.static yX1_groupsOf, Cond.code yX1_groupsOf cX1_groupsOf 3 (some .int), Cond.methodLink RX1 155 Lib.Math.max.name, Cond.static Lib.Math.max.name, Cond.initialized "java/lang/Math", Cond.code Lib.Math.max.name Lib.Math.max.code 2 (some .int)]
def wsX1_listLength : List Cond := .code yX1_listLength cX1_listLength 8 (some .long) :: ((wsX1_listLength_r1 ++ wsX1_listLength_r2) ++ wsX10)
def wsX1_total_r1 : List Cond := [Cond.methodLink RX1 29 yX1_requireCode, Cond.static yX1_requireCode, Cond.initialized RX1, Cond.code yX1_requireCode cX1_requireCode 2 none, Cond.classLink RX1 52 "java/lang/IllegalArgumentException", Cond.initialized "java/lang/IllegalArgumentException", Cond.methodLink RX1 87 yX1_isCode, Cond.static yX1_isCode, Cond.code yX1_isCode cX1_isCode 2 (some .boolean), Cond.methodLink RX1 93 yX1_leastParameter, Cond.static yX1_leastParameter, Cond.code yX1_leastParameter cX1_leastParameter 1 (some .int), Cond.methodLink RX1 115 yX1_greatestParameter, Cond.static yX1_greatestParameter, Cond.code yX1_greatestParameter cX1_greatestParameter 1 (some .int), Cond.constant RX1 114 (1000000), Cond.methodLink RX1 84 yX1_listLength, Cond.instanceMethod yX1_listLength, Cond.selects RX1 yX1_listLength yX1_listLength, Cond.code yX1_listLength cX1_listLength 8 (some .long), Cond.fieldLink RX1 20 "SelfEndingCodes" "listed" "I", Cond.fieldLink RX1 16 "SelfEndingCodes" "list" "[J", Cond.constantLong RX1 106 (4611686018427387904), Cond.methodLink RX1 37 yX1_codewordLength]
def wsX1_total_r2 : List Cond := [Cond.instanceMethod yX1_codewordLength, Cond.selects RX1 yX1_codewordLength yX1_codewordLength, Cond.code yX1_codewordLength cX1_codewordLength 5 (some .long), Cond.methodLink RX1 124 yX1_gammaLength, Cond.static yX1_gammaLength, Cond.code yX1_gammaLength cX1_gammaLength 2 (some .int), Cond.methodLink RX1 127 yX1_bitLength, Cond.static yX1_bitLength, Cond.code yX1_bitLength cX1_bitLength 2 (some .int), Cond.methodLink RX1 144 yJ13_numberOfLeadingZeros_95d88, Cond.static yJ13_numberOfLeadingZeros_95d88, Cond.initialized RJ13, Cond.code yJ13_numberOfLeadingZeros_95d88 cJ13_numberOfLeadingZeros_95d88 3 (some .int), Cond.methodLink RJ13 308 yJ6_numberOfLeadingZeros_0f7a4, Cond.static yJ6_numberOfLeadingZeros_0f7a4, Cond.initialized RJ6, Cond.code yJ6_numberOfLeadingZeros_0f7a4 cJ6_numberOfLeadingZeros_0f7a4 2 (some .int), Cond.constant RJ6 264 (65536), Cond.methodLink RX1 130 yX1_omegaLength, Cond.static yX1_omegaLength, Cond.code yX1_omegaLength cX1_omegaLength 7 (some .int), Cond.methodLink RX1 133 yX1_fibonacciLength, Cond.instanceMethod yX1_fibonacciLength, Cond.selects RX1 yX1_fibonacciLength yX1_fibonacciLength]
def wsX1_total_r3 : List Cond := [Cond.code yX1_fibonacciLength cX1_fibonacciLength 7 (some .int), Cond.fieldLink RX1 24 "SelfEndingCodes" "fibonacci" "[J", Cond.methodLink RX1 136 yX1_golombLength, Cond.static yX1_golombLength, Cond.code yX1_golombLength cX1_golombLength 8 (some .long), Cond.methodLink RX1 149 yX1_golombWidth, Cond.static yX1_golombWidth, Cond.code yX1_golombWidth cX1_golombWidth 1 (some .int), Cond.methodLink RX1 152 yX1_golombShortRests, Cond.static yX1_golombShortRests, Cond.code yX1_golombShortRests cX1_golombShortRests 2 (some .long), Cond.methodLink RX1 140 yX1_groupsOf, Cond.static yX1_groupsOf, Cond.code yX1_groupsOf cX1_groupsOf 3 (some .int), Cond.methodLink RX1 155 Lib.Math.max.name, Cond.static Lib.Math.max.name, Cond.initialized "java/lang/Math", Cond.code Lib.Math.max.name Lib.Math.max.code 2 (some .int)]
def wsX1_total : List Cond := .code yX1_total cX1_total 3 (some .long) :: ((wsX1_total_r1 ++ (wsX1_total_r2 ++ wsX1_total_r3)) ++ wsX10 ++ (vx_atS RX1 56 "java/lang/IllegalArgumentException" ["java/lang/RuntimeException", "java/lang/Exception"]).filter goodWord)
def wsX1_best_r1 : List Cond := [Cond.classLink RX1 52 "java/lang/IllegalArgumentException", Cond.initialized "java/lang/IllegalArgumentException", Cond.methodLink RX1 87 yX1_isCode, Cond.static yX1_isCode, Cond.initialized RX1, Cond.code yX1_isCode cX1_isCode 2 (some .boolean), Cond.methodLink RX1 93 yX1_leastParameter, Cond.static yX1_leastParameter, Cond.code yX1_leastParameter cX1_leastParameter 1 (some .int), Cond.methodLink RX1 115 yX1_greatestParameter, Cond.static yX1_greatestParameter, Cond.code yX1_greatestParameter cX1_greatestParameter 1 (some .int), Cond.constant RX1 114 (1000000), Cond.methodLink RX1 84 yX1_listLength, Cond.instanceMethod yX1_listLength, Cond.selects RX1 yX1_listLength yX1_listLength, Cond.code yX1_listLength cX1_listLength 8 (some .long), Cond.fieldLink RX1 20 "SelfEndingCodes" "listed" "I", Cond.fieldLink RX1 16 "SelfEndingCodes" "list" "[J", Cond.constantLong RX1 106 (4611686018427387904), Cond.methodLink RX1 37 yX1_codewordLength, Cond.instanceMethod yX1_codewordLength, Cond.selects RX1 yX1_codewordLength yX1_codewordLength, Cond.code yX1_codewordLength cX1_codewordLength 5 (some .long)]
def wsX1_best_r2 : List Cond := [Cond.methodLink RX1 124 yX1_gammaLength, Cond.static yX1_gammaLength, Cond.code yX1_gammaLength cX1_gammaLength 2 (some .int), Cond.methodLink RX1 127 yX1_bitLength, Cond.static yX1_bitLength, Cond.code yX1_bitLength cX1_bitLength 2 (some .int), Cond.methodLink RX1 144 yJ13_numberOfLeadingZeros_95d88, Cond.static yJ13_numberOfLeadingZeros_95d88, Cond.initialized RJ13, Cond.code yJ13_numberOfLeadingZeros_95d88 cJ13_numberOfLeadingZeros_95d88 3 (some .int), Cond.methodLink RJ13 308 yJ6_numberOfLeadingZeros_0f7a4, Cond.static yJ6_numberOfLeadingZeros_0f7a4, Cond.initialized RJ6, Cond.code yJ6_numberOfLeadingZeros_0f7a4 cJ6_numberOfLeadingZeros_0f7a4 2 (some .int), Cond.constant RJ6 264 (65536), Cond.methodLink RX1 130 yX1_omegaLength, Cond.static yX1_omegaLength, Cond.code yX1_omegaLength cX1_omegaLength 7 (some .int), Cond.methodLink RX1 133 yX1_fibonacciLength, Cond.instanceMethod yX1_fibonacciLength, Cond.selects RX1 yX1_fibonacciLength yX1_fibonacciLength, Cond.code yX1_fibonacciLength cX1_fibonacciLength 7 (some .int), Cond.fieldLink RX1 24 "SelfEndingCodes" "fibonacci" "[J", Cond.methodLink RX1 136 yX1_golombLength]
def wsX1_best_r3 : List Cond := [Cond.static yX1_golombLength, Cond.code yX1_golombLength cX1_golombLength 8 (some .long), Cond.methodLink RX1 149 yX1_golombWidth, Cond.static yX1_golombWidth, Cond.code yX1_golombWidth cX1_golombWidth 1 (some .int), Cond.methodLink RX1 152 yX1_golombShortRests, Cond.static yX1_golombShortRests, Cond.code yX1_golombShortRests cX1_golombShortRests 2 (some .long), Cond.methodLink RX1 140 yX1_groupsOf, Cond.static yX1_groupsOf, Cond.code yX1_groupsOf cX1_groupsOf 3 (some .int), Cond.methodLink RX1 155 Lib.Math.max.name, Cond.static Lib.Math.max.name, Cond.initialized "java/lang/Math", Cond.code Lib.Math.max.name Lib.Math.max.code 2 (some .int)]
def wsX1_best : List Cond := .code yX1_best cX1_best 9 (some .int) :: ((wsX1_best_r1 ++ (wsX1_best_r2 ++ wsX1_best_r3)) ++ wsX10 ++ (vx_atS RX1 56 "java/lang/IllegalArgumentException" ["java/lang/RuntimeException", "java/lang/Exception"]).filter goodWord)
def wsX1_putAll_r1 : List Cond := [Cond.fieldLink RX1 20 "SelfEndingCodes" "listed" "I", Cond.fieldLink RX1 16 "SelfEndingCodes" "list" "[J", Cond.methodLink RX1 29 yX1_requireCode, Cond.static yX1_requireCode, Cond.initialized RX1, Cond.code yX1_requireCode cX1_requireCode 2 none, Cond.classLink RX1 52 "java/lang/IllegalArgumentException", Cond.initialized "java/lang/IllegalArgumentException", Cond.methodLink RX1 87 yX1_isCode, Cond.static yX1_isCode, Cond.code yX1_isCode cX1_isCode 2 (some .boolean), Cond.methodLink RX1 93 yX1_leastParameter, Cond.static yX1_leastParameter, Cond.code yX1_leastParameter cX1_leastParameter 1 (some .int), Cond.methodLink RX1 115 yX1_greatestParameter, Cond.static yX1_greatestParameter, Cond.code yX1_greatestParameter cX1_greatestParameter 1 (some .int), Cond.constant RX1 114 (1000000), Cond.methodLink RX1 41 yX1_appendIfRoom, Cond.instanceMethod yX1_appendIfRoom, Cond.selects RX1 yX1_appendIfRoom yX1_appendIfRoom, Cond.code yX1_appendIfRoom cX1_appendIfRoom 5 (some .boolean), Cond.fieldLink RX1 12 "SelfEndingCodes" "row" "LSelfEndingCodes$BitRow;", Cond.methodLink RX1 37 yX1_codewordLength]
def wsX1_putAll_r2 : List Cond := [Cond.instanceMethod yX1_codewordLength, Cond.selects RX1 yX1_codewordLength yX1_codewordLength, Cond.code yX1_codewordLength cX1_codewordLength 5 (some .long), Cond.methodLink RX1 124 yX1_gammaLength, Cond.static yX1_gammaLength, Cond.code yX1_gammaLength cX1_gammaLength 2 (some .int), Cond.methodLink RX1 127 yX1_bitLength, Cond.static yX1_bitLength, Cond.code yX1_bitLength cX1_bitLength 2 (some .int), Cond.methodLink RX1 144 yJ13_numberOfLeadingZeros_95d88, Cond.static yJ13_numberOfLeadingZeros_95d88, Cond.initialized RJ13, Cond.code yJ13_numberOfLeadingZeros_95d88 cJ13_numberOfLeadingZeros_95d88 3 (some .int), Cond.methodLink RJ13 308 yJ6_numberOfLeadingZeros_0f7a4, Cond.static yJ6_numberOfLeadingZeros_0f7a4, Cond.initialized RJ6, Cond.code yJ6_numberOfLeadingZeros_0f7a4 cJ6_numberOfLeadingZeros_0f7a4 2 (some .int), Cond.constant RJ6 264 (65536), Cond.methodLink RX1 130 yX1_omegaLength, Cond.static yX1_omegaLength, Cond.code yX1_omegaLength cX1_omegaLength 7 (some .int), Cond.methodLink RX1 133 yX1_fibonacciLength, Cond.instanceMethod yX1_fibonacciLength, Cond.selects RX1 yX1_fibonacciLength yX1_fibonacciLength]
def wsX1_putAll_r3 : List Cond := [Cond.code yX1_fibonacciLength cX1_fibonacciLength 7 (some .int), Cond.fieldLink RX1 24 "SelfEndingCodes" "fibonacci" "[J", Cond.methodLink RX1 136 yX1_golombLength, Cond.static yX1_golombLength, Cond.code yX1_golombLength cX1_golombLength 8 (some .long), Cond.methodLink RX1 149 yX1_golombWidth, Cond.static yX1_golombWidth, Cond.code yX1_golombWidth cX1_golombWidth 1 (some .int), Cond.methodLink RX1 152 yX1_golombShortRests, Cond.static yX1_golombShortRests, Cond.code yX1_golombShortRests cX1_golombShortRests 2 (some .long), Cond.methodLink RX1 140 yX1_groupsOf, Cond.static yX1_groupsOf, Cond.code yX1_groupsOf cX1_groupsOf 3 (some .int), Cond.methodLink RX1 155 Lib.Math.max.name, Cond.static Lib.Math.max.name, Cond.initialized "java/lang/Math", Cond.code Lib.Math.max.name Lib.Math.max.code 2 (some .int), Cond.methodLink RX1 59 yX0_room, Cond.instanceMethod yX0_room, Cond.selects RX0 yX0_room yX0_room, Cond.initialized RX0, Cond.code yX0_room cX0_room 1 (some .int), Cond.fieldLink RX0 15 "SelfEndingCodes$BitRow" "end" "I"]
def wsX1_putAll_r4 : List Cond := [Cond.methodLink RX1 163 yX1_appendCodeword, Cond.instanceMethod yX1_appendCodeword, Cond.selects RX1 yX1_appendCodeword yX1_appendCodeword, Cond.code yX1_appendCodeword cX1_appendCodeword 5 none, Cond.methodLink RX1 167 yX0_appendOnesAndZero, Cond.instanceMethod yX0_appendOnesAndZero, Cond.selects RX0 yX0_appendOnesAndZero yX0_appendOnesAndZero, Cond.code yX0_appendOnesAndZero cX0_appendOnesAndZero 4 none, Cond.methodLink RX0 35 yX0_setOne, Cond.instanceMethod yX0_setOne, Cond.selects RX0 yX0_setOne yX0_setOne, Cond.code yX0_setOne cX0_setOne 2 none, Cond.fieldLink RX0 9 "SelfEndingCodes$BitRow" "words" "[J", Cond.methodLink RX1 170 yX1_appendGamma, Cond.instanceMethod yX1_appendGamma, Cond.selects RX1 yX1_appendGamma yX1_appendGamma, Cond.code yX1_appendGamma cX1_appendGamma 3 none, Cond.methodLink RX1 63 yX0_appendBits, Cond.instanceMethod yX0_appendBits, Cond.selects RX0 yX0_appendBits yX0_appendBits, Cond.code yX0_appendBits cX0_appendBits 4 none, Cond.methodLink RX0 39 yX0_writeBits, Cond.instanceMethod yX0_writeBits, Cond.selects RX0 yX0_writeBits yX0_writeBits]
def wsX1_putAll_r5 : List Cond := [Cond.code yX0_writeBits cX0_writeBits 6 none, Cond.methodLink RX1 173 yX1_appendOmega, Cond.instanceMethod yX1_appendOmega, Cond.selects RX1 yX1_appendOmega yX1_appendOmega, Cond.code yX1_appendOmega cX1_appendOmega 9 none, Cond.methodLink RX1 186 yX0_writeBits, Cond.methodLink RX1 176 yX1_appendFibonacci, Cond.instanceMethod yX1_appendFibonacci, Cond.selects RX1 yX1_appendFibonacci yX1_appendFibonacci, Cond.code yX1_appendFibonacci cX1_appendFibonacci 7 none, Cond.methodLink RX1 179 yX1_appendGolomb, Cond.instanceMethod yX1_appendGolomb, Cond.selects RX1 yX1_appendGolomb yX1_appendGolomb, Cond.code yX1_appendGolomb cX1_appendGolomb 9 none, Cond.methodLink RX1 183 yX1_appendGroups, Cond.instanceMethod yX1_appendGroups, Cond.selects RX1 yX1_appendGroups yX1_appendGroups, Cond.code yX1_appendGroups cX1_appendGroups 8 none]
def wsX1_putAll : List Cond := .code yX1_putAll cX1_putAll 4 (some .int) :: ((wsX1_putAll_r1 ++ (wsX1_putAll_r2 ++ (wsX1_putAll_r3 ++ (wsX1_putAll_r4 ++ wsX1_putAll_r5)))) ++ wsX10 ++ wsX00 ++ (vx_atS RX1 56 "java/lang/IllegalArgumentException" ["java/lang/RuntimeException", "java/lang/Exception"]).filter goodWord)
def wsX1_takeAll_r1 : List Cond := [Cond.fieldLink RX1 20 "SelfEndingCodes" "listed" "I", Cond.constantLong RX1 97 (-1), Cond.fieldLink RX1 16 "SelfEndingCodes" "list" "[J", Cond.methodLink RX1 29 yX1_requireCode, Cond.static yX1_requireCode, Cond.initialized RX1, Cond.code yX1_requireCode cX1_requireCode 2 none, Cond.classLink RX1 52 "java/lang/IllegalArgumentException", Cond.initialized "java/lang/IllegalArgumentException", Cond.methodLink RX1 87 yX1_isCode, Cond.static yX1_isCode, Cond.code yX1_isCode cX1_isCode 2 (some .boolean), Cond.methodLink RX1 93 yX1_leastParameter, Cond.static yX1_leastParameter, Cond.code yX1_leastParameter cX1_leastParameter 1 (some .int), Cond.methodLink RX1 115 yX1_greatestParameter, Cond.static yX1_greatestParameter, Cond.code yX1_greatestParameter cX1_greatestParameter 1 (some .int), Cond.constant RX1 114 (1000000), Cond.methodLink RX1 48 yX1_readNext, Cond.instanceMethod yX1_readNext, Cond.selects RX1 yX1_readNext yX1_readNext, Cond.code yX1_readNext cX1_readNext 5 (some .long), Cond.fieldLink RX1 12 "SelfEndingCodes" "row" "LSelfEndingCodes$BitRow;"]
def wsX1_takeAll_r2 : List Cond := [Cond.methodLink RX1 193 yX1_readCodeword, Cond.instanceMethod yX1_readCodeword, Cond.selects RX1 yX1_readCodeword yX1_readCodeword, Cond.code yX1_readCodeword cX1_readCodeword 3 (some .long), Cond.methodLink RX1 196 yX0_readOnesAndZero, Cond.instanceMethod yX0_readOnesAndZero, Cond.selects RX0 yX0_readOnesAndZero yX0_readOnesAndZero, Cond.initialized RX0, Cond.code yX0_readOnesAndZero cX0_readOnesAndZero 2 (some .int), Cond.methodLink RX0 49 yX0_readBit, Cond.instanceMethod yX0_readBit, Cond.selects RX0 yX0_readBit yX0_readBit, Cond.code yX0_readBit cX0_readBit 2 (some .int), Cond.fieldLink RX0 22 "SelfEndingCodes$BitRow" "cursor" "I", Cond.methodLink RX0 43 yX0_bitAt, Cond.instanceMethod yX0_bitAt, Cond.selects RX0 yX0_bitAt yX0_bitAt, Cond.code yX0_bitAt cX0_bitAt 3 (some .int), Cond.fieldLink RX0 15 "SelfEndingCodes$BitRow" "end" "I", Cond.fieldLink RX0 9 "SelfEndingCodes$BitRow" "words" "[J", Cond.constantLong RX0 31 (64), Cond.constantLong RX0 33 (63), Cond.methodLink RX1 199 yX1_readGamma, Cond.instanceMethod yX1_readGamma]
def wsX1_takeAll_r3 : List Cond := [Cond.selects RX1 yX1_readGamma yX1_readGamma, Cond.code yX1_readGamma cX1_readGamma 2 (some .long), Cond.methodLink RX1 222 yX0_readBit, Cond.methodLink RX1 225 yX0_readBits, Cond.instanceMethod yX0_readBits, Cond.selects RX0 yX0_readBits yX0_readBits, Cond.code yX0_readBits cX0_readBits 7 (some .long), Cond.constantLong RX0 47 (2), Cond.methodLink RX1 229 yX1_numberOrNone, Cond.static yX1_numberOrNone, Cond.code yX1_numberOrNone cX1_numberOrNone 2 (some .long), Cond.constantLong RX1 106 (4611686018427387904), Cond.methodLink RX1 203 yX1_readDelta, Cond.instanceMethod yX1_readDelta, Cond.selects RX1 yX1_readDelta yX1_readDelta, Cond.code yX1_readDelta cX1_readDelta 3 (some .long), Cond.constantLong RX1 233 (63), Cond.methodLink RX1 206 yX1_readOmega, Cond.instanceMethod yX1_readOmega, Cond.selects RX1 yX1_readOmega yX1_readOmega, Cond.code yX1_readOmega cX1_readOmega 4 (some .long), Cond.methodLink RX1 209 yX1_readFibonacci, Cond.instanceMethod yX1_readFibonacci, Cond.selects RX1 yX1_readFibonacci yX1_readFibonacci]
def wsX1_takeAll_r4 : List Cond := [Cond.code yX1_readFibonacci cX1_readFibonacci 6 (some .long), Cond.fieldLink RX1 24 "SelfEndingCodes" "fibonacci" "[J", Cond.methodLink RX1 212 yX1_readGolomb, Cond.instanceMethod yX1_readGolomb, Cond.selects RX1 yX1_readGolomb yX1_readGolomb, Cond.code yX1_readGolomb cX1_readGolomb 9 (some .long), Cond.constantLong RX1 27 (2), Cond.methodLink RX1 149 yX1_golombWidth, Cond.static yX1_golombWidth, Cond.code yX1_golombWidth cX1_golombWidth 1 (some .int), Cond.methodLink RX1 127 yX1_bitLength, Cond.static yX1_bitLength, Cond.code yX1_bitLength cX1_bitLength 2 (some .int), Cond.methodLink RX1 144 yJ13_numberOfLeadingZeros_95d88, Cond.static yJ13_numberOfLeadingZeros_95d88, Cond.initialized RJ13, Cond.code yJ13_numberOfLeadingZeros_95d88 cJ13_numberOfLeadingZeros_95d88 3 (some .int), Cond.methodLink RJ13 308 yJ6_numberOfLeadingZeros_0f7a4, Cond.static yJ6_numberOfLeadingZeros_0f7a4, Cond.initialized RJ6, Cond.code yJ6_numberOfLeadingZeros_0f7a4 cJ6_numberOfLeadingZeros_0f7a4 2 (some .int), Cond.constant RJ6 264 (65536), Cond.methodLink RX1 152 yX1_golombShortRests, Cond.static yX1_golombShortRests]
def wsX1_takeAll_r5 : List Cond := [Cond.code yX1_golombShortRests cX1_golombShortRests 2 (some .long), Cond.methodLink RX1 216 yX1_readExpGolomb, Cond.instanceMethod yX1_readExpGolomb, Cond.selects RX1 yX1_readExpGolomb yX1_readExpGolomb, Cond.code yX1_readExpGolomb cX1_readExpGolomb 4 (some .long), Cond.methodLink RX1 219 yX1_readGroups, Cond.instanceMethod yX1_readGroups, Cond.selects RX1 yX1_readGroups yX1_readGroups, Cond.code yX1_readGroups cX1_readGroups 9 (some .long)]
def wsX1_takeAll : List Cond := .code yX1_takeAll cX1_takeAll 6 (some .int) :: ((wsX1_takeAll_r1 ++ (wsX1_takeAll_r2 ++ (wsX1_takeAll_r3 ++ (wsX1_takeAll_r4 ++ wsX1_takeAll_r5)))) ++ wsX10 ++ wsX00 ++ (vx_atS RX1 56 "java/lang/IllegalArgumentException" ["java/lang/RuntimeException", "java/lang/Exception"]).filter goodWord)
def wsX1_requireLength : List Cond := .code yX1_requireLength cX1_requireLength 2 none :: ([.classLink RX1 52 "java/lang/IllegalArgumentException", .initialized "java/lang/IllegalArgumentException"] ++ (vx_atS RX1 56 "java/lang/IllegalArgumentException" ["java/lang/RuntimeException", "java/lang/Exception"]).filter goodWord)
def wsX1_leastReaching_r1 : List Cond := [Cond.constantLong RX1 161 (4611686018427387905), Cond.constantLong RX1 27 (2), Cond.methodLink RX1 37 yX1_codewordLength, Cond.instanceMethod yX1_codewordLength, Cond.selects RX1 yX1_codewordLength yX1_codewordLength, Cond.initialized RX1, Cond.code yX1_codewordLength cX1_codewordLength 5 (some .long), Cond.methodLink RX1 124 yX1_gammaLength, Cond.static yX1_gammaLength, Cond.code yX1_gammaLength cX1_gammaLength 2 (some .int), Cond.methodLink RX1 127 yX1_bitLength, Cond.static yX1_bitLength, Cond.code yX1_bitLength cX1_bitLength 2 (some .int), Cond.methodLink RX1 144 yJ13_numberOfLeadingZeros_95d88, Cond.static yJ13_numberOfLeadingZeros_95d88, Cond.initialized RJ13, Cond.code yJ13_numberOfLeadingZeros_95d88 cJ13_numberOfLeadingZeros_95d88 3 (some .int), Cond.methodLink RJ13 308 yJ6_numberOfLeadingZeros_0f7a4, Cond.static yJ6_numberOfLeadingZeros_0f7a4, Cond.initialized RJ6, Cond.code yJ6_numberOfLeadingZeros_0f7a4 cJ6_numberOfLeadingZeros_0f7a4 2 (some .int), Cond.constant RJ6 264 (65536), Cond.methodLink RX1 130 yX1_omegaLength, Cond.static yX1_omegaLength]
def wsX1_leastReaching_r2 : List Cond := [Cond.code yX1_omegaLength cX1_omegaLength 7 (some .int), Cond.methodLink RX1 133 yX1_fibonacciLength, Cond.instanceMethod yX1_fibonacciLength, Cond.selects RX1 yX1_fibonacciLength yX1_fibonacciLength, Cond.code yX1_fibonacciLength cX1_fibonacciLength 7 (some .int), Cond.fieldLink RX1 24 "SelfEndingCodes" "fibonacci" "[J", Cond.methodLink RX1 136 yX1_golombLength, Cond.static yX1_golombLength, Cond.code yX1_golombLength cX1_golombLength 8 (some .long), Cond.methodLink RX1 149 yX1_golombWidth, Cond.static yX1_golombWidth, Cond.code yX1_golombWidth cX1_golombWidth 1 (some .int), Cond.methodLink RX1 152 yX1_golombShortRests, Cond.static yX1_golombShortRests, Cond.code yX1_golombShortRests cX1_golombShortRests 2 (some .long), Cond.methodLink RX1 140 yX1_groupsOf, Cond.static yX1_groupsOf, Cond.code yX1_groupsOf cX1_groupsOf 3 (some .int), Cond.methodLink RX1 155 Lib.Math.max.name, Cond.static Lib.Math.max.name, Cond.initialized "java/lang/Math", Cond.code Lib.Math.max.name Lib.Math.max.code 2 (some .int)]
def wsX1_leastReaching : List Cond := .code yX1_leastReaching cX1_leastReaching 11 (some .long) :: ((wsX1_leastReaching_r1 ++ wsX1_leastReaching_r2) ++ wsX10)
def wsX1_count_r1 : List Cond := [Cond.methodLink RX1 29 yX1_requireCode, Cond.static yX1_requireCode, Cond.initialized RX1, Cond.code yX1_requireCode cX1_requireCode 2 none, Cond.classLink RX1 52 "java/lang/IllegalArgumentException", Cond.initialized "java/lang/IllegalArgumentException", Cond.methodLink RX1 87 yX1_isCode, Cond.static yX1_isCode, Cond.code yX1_isCode cX1_isCode 2 (some .boolean), Cond.methodLink RX1 93 yX1_leastParameter, Cond.static yX1_leastParameter, Cond.code yX1_leastParameter cX1_leastParameter 1 (some .int), Cond.methodLink RX1 115 yX1_greatestParameter, Cond.static yX1_greatestParameter, Cond.code yX1_greatestParameter cX1_greatestParameter 1 (some .int), Cond.constant RX1 114 (1000000), Cond.methodLink RX1 99 yX1_requireLength, Cond.static yX1_requireLength, Cond.code yX1_requireLength cX1_requireLength 2 none, Cond.methodLink RX1 102 yX1_leastReaching, Cond.instanceMethod yX1_leastReaching, Cond.selects RX1 yX1_leastReaching yX1_leastReaching, Cond.code yX1_leastReaching cX1_leastReaching 11 (some .long), Cond.constantLong RX1 161 (4611686018427387905)]
def wsX1_count_r2 : List Cond := [Cond.constantLong RX1 27 (2), Cond.methodLink RX1 37 yX1_codewordLength, Cond.instanceMethod yX1_codewordLength, Cond.selects RX1 yX1_codewordLength yX1_codewordLength, Cond.code yX1_codewordLength cX1_codewordLength 5 (some .long), Cond.methodLink RX1 124 yX1_gammaLength, Cond.static yX1_gammaLength, Cond.code yX1_gammaLength cX1_gammaLength 2 (some .int), Cond.methodLink RX1 127 yX1_bitLength, Cond.static yX1_bitLength, Cond.code yX1_bitLength cX1_bitLength 2 (some .int), Cond.methodLink RX1 144 yJ13_numberOfLeadingZeros_95d88, Cond.static yJ13_numberOfLeadingZeros_95d88, Cond.initialized RJ13, Cond.code yJ13_numberOfLeadingZeros_95d88 cJ13_numberOfLeadingZeros_95d88 3 (some .int), Cond.methodLink RJ13 308 yJ6_numberOfLeadingZeros_0f7a4, Cond.static yJ6_numberOfLeadingZeros_0f7a4, Cond.initialized RJ6, Cond.code yJ6_numberOfLeadingZeros_0f7a4 cJ6_numberOfLeadingZeros_0f7a4 2 (some .int), Cond.constant RJ6 264 (65536), Cond.methodLink RX1 130 yX1_omegaLength, Cond.static yX1_omegaLength, Cond.code yX1_omegaLength cX1_omegaLength 7 (some .int), Cond.methodLink RX1 133 yX1_fibonacciLength]
def wsX1_count_r3 : List Cond := [Cond.instanceMethod yX1_fibonacciLength, Cond.selects RX1 yX1_fibonacciLength yX1_fibonacciLength, Cond.code yX1_fibonacciLength cX1_fibonacciLength 7 (some .int), Cond.fieldLink RX1 24 "SelfEndingCodes" "fibonacci" "[J", Cond.methodLink RX1 136 yX1_golombLength, Cond.static yX1_golombLength, Cond.code yX1_golombLength cX1_golombLength 8 (some .long), Cond.methodLink RX1 149 yX1_golombWidth, Cond.static yX1_golombWidth, Cond.code yX1_golombWidth cX1_golombWidth 1 (some .int), Cond.methodLink RX1 152 yX1_golombShortRests, Cond.static yX1_golombShortRests, Cond.code yX1_golombShortRests cX1_golombShortRests 2 (some .long), Cond.methodLink RX1 140 yX1_groupsOf, Cond.static yX1_groupsOf, Cond.code yX1_groupsOf cX1_groupsOf 3 (some .int), Cond.methodLink RX1 155 Lib.Math.max.name, Cond.static Lib.Math.max.name, Cond.initialized "java/lang/Math", Cond.code Lib.Math.max.name Lib.Math.max.code 2 (some .int)]
def wsX1_count : List Cond := .code yX1_count cX1_count 4 (some .long) :: ((wsX1_count_r1 ++ (wsX1_count_r2 ++ wsX1_count_r3)) ++ wsX10 ++ (vx_atS RX1 56 "java/lang/IllegalArgumentException" ["java/lang/RuntimeException", "java/lang/Exception"]).filter goodWord)
def wsX1_first_r1 : List Cond := [Cond.constantLong RX1 106 (4611686018427387904), Cond.constantLong RX1 97 (-1), Cond.methodLink RX1 29 yX1_requireCode, Cond.static yX1_requireCode, Cond.initialized RX1, Cond.code yX1_requireCode cX1_requireCode 2 none, Cond.classLink RX1 52 "java/lang/IllegalArgumentException", Cond.initialized "java/lang/IllegalArgumentException", Cond.methodLink RX1 87 yX1_isCode, Cond.static yX1_isCode, Cond.code yX1_isCode cX1_isCode 2 (some .boolean), Cond.methodLink RX1 93 yX1_leastParameter, Cond.static yX1_leastParameter, Cond.code yX1_leastParameter cX1_leastParameter 1 (some .int), Cond.methodLink RX1 115 yX1_greatestParameter, Cond.static yX1_greatestParameter, Cond.code yX1_greatestParameter cX1_greatestParameter 1 (some .int), Cond.constant RX1 114 (1000000), Cond.methodLink RX1 99 yX1_requireLength, Cond.static yX1_requireLength, Cond.code yX1_requireLength cX1_requireLength 2 none, Cond.methodLink RX1 102 yX1_leastReaching, Cond.instanceMethod yX1_leastReaching, Cond.selects RX1 yX1_leastReaching yX1_leastReaching]
def wsX1_first_r2 : List Cond := [Cond.code yX1_leastReaching cX1_leastReaching 11 (some .long), Cond.constantLong RX1 161 (4611686018427387905), Cond.constantLong RX1 27 (2), Cond.methodLink RX1 37 yX1_codewordLength, Cond.instanceMethod yX1_codewordLength, Cond.selects RX1 yX1_codewordLength yX1_codewordLength, Cond.code yX1_codewordLength cX1_codewordLength 5 (some .long), Cond.methodLink RX1 124 yX1_gammaLength, Cond.static yX1_gammaLength, Cond.code yX1_gammaLength cX1_gammaLength 2 (some .int), Cond.methodLink RX1 127 yX1_bitLength, Cond.static yX1_bitLength, Cond.code yX1_bitLength cX1_bitLength 2 (some .int), Cond.methodLink RX1 144 yJ13_numberOfLeadingZeros_95d88, Cond.static yJ13_numberOfLeadingZeros_95d88, Cond.initialized RJ13, Cond.code yJ13_numberOfLeadingZeros_95d88 cJ13_numberOfLeadingZeros_95d88 3 (some .int), Cond.methodLink RJ13 308 yJ6_numberOfLeadingZeros_0f7a4, Cond.static yJ6_numberOfLeadingZeros_0f7a4, Cond.initialized RJ6, Cond.code yJ6_numberOfLeadingZeros_0f7a4 cJ6_numberOfLeadingZeros_0f7a4 2 (some .int), Cond.constant RJ6 264 (65536), Cond.methodLink RX1 130 yX1_omegaLength, Cond.static yX1_omegaLength]
def wsX1_first_r3 : List Cond := [Cond.code yX1_omegaLength cX1_omegaLength 7 (some .int), Cond.methodLink RX1 133 yX1_fibonacciLength, Cond.instanceMethod yX1_fibonacciLength, Cond.selects RX1 yX1_fibonacciLength yX1_fibonacciLength, Cond.code yX1_fibonacciLength cX1_fibonacciLength 7 (some .int), Cond.fieldLink RX1 24 "SelfEndingCodes" "fibonacci" "[J", Cond.methodLink RX1 136 yX1_golombLength, Cond.static yX1_golombLength, Cond.code yX1_golombLength cX1_golombLength 8 (some .long), Cond.methodLink RX1 149 yX1_golombWidth, Cond.static yX1_golombWidth, Cond.code yX1_golombWidth cX1_golombWidth 1 (some .int), Cond.methodLink RX1 152 yX1_golombShortRests, Cond.static yX1_golombShortRests, Cond.code yX1_golombShortRests cX1_golombShortRests 2 (some .long), Cond.methodLink RX1 140 yX1_groupsOf, Cond.static yX1_groupsOf, Cond.code yX1_groupsOf cX1_groupsOf 3 (some .int), Cond.methodLink RX1 155 Lib.Math.max.name, Cond.static Lib.Math.max.name, Cond.initialized "java/lang/Math", Cond.code Lib.Math.max.name Lib.Math.max.code 2 (some .int)]
def wsX1_first : List Cond := .code yX1_first cX1_first 7 (some .long) :: ((wsX1_first_r1 ++ (wsX1_first_r2 ++ wsX1_first_r3)) ++ wsX10 ++ (vx_atS RX1 56 "java/lang/IllegalArgumentException" ["java/lang/RuntimeException", "java/lang/Exception"]).filter goodWord)
def wsX1_begun_r1 : List Cond := [Cond.constantLong RX1 27 (2), Cond.methodLink RX1 29 yX1_requireCode, Cond.static yX1_requireCode, Cond.initialized RX1, Cond.code yX1_requireCode cX1_requireCode 2 none, Cond.classLink RX1 52 "java/lang/IllegalArgumentException", Cond.initialized "java/lang/IllegalArgumentException", Cond.methodLink RX1 87 yX1_isCode, Cond.static yX1_isCode, Cond.code yX1_isCode cX1_isCode 2 (some .boolean), Cond.methodLink RX1 93 yX1_leastParameter, Cond.static yX1_leastParameter, Cond.code yX1_leastParameter cX1_leastParameter 1 (some .int), Cond.methodLink RX1 115 yX1_greatestParameter, Cond.static yX1_greatestParameter, Cond.code yX1_greatestParameter cX1_greatestParameter 1 (some .int), Cond.constant RX1 114 (1000000), Cond.methodLink RX1 99 yX1_requireLength, Cond.static yX1_requireLength, Cond.code yX1_requireLength cX1_requireLength 2 none, Cond.methodLink RX1 102 yX1_leastReaching, Cond.instanceMethod yX1_leastReaching, Cond.selects RX1 yX1_leastReaching yX1_leastReaching, Cond.code yX1_leastReaching cX1_leastReaching 11 (some .long)]
def wsX1_begun_r2 : List Cond := [Cond.constantLong RX1 161 (4611686018427387905), Cond.methodLink RX1 37 yX1_codewordLength, Cond.instanceMethod yX1_codewordLength, Cond.selects RX1 yX1_codewordLength yX1_codewordLength, Cond.code yX1_codewordLength cX1_codewordLength 5 (some .long), Cond.methodLink RX1 124 yX1_gammaLength, Cond.static yX1_gammaLength, Cond.code yX1_gammaLength cX1_gammaLength 2 (some .int), Cond.methodLink RX1 127 yX1_bitLength, Cond.static yX1_bitLength, Cond.code yX1_bitLength cX1_bitLength 2 (some .int), Cond.methodLink RX1 144 yJ13_numberOfLeadingZeros_95d88, Cond.static yJ13_numberOfLeadingZeros_95d88, Cond.initialized RJ13, Cond.code yJ13_numberOfLeadingZeros_95d88 cJ13_numberOfLeadingZeros_95d88 3 (some .int), Cond.methodLink RJ13 308 yJ6_numberOfLeadingZeros_0f7a4, Cond.static yJ6_numberOfLeadingZeros_0f7a4, Cond.initialized RJ6, Cond.code yJ6_numberOfLeadingZeros_0f7a4 cJ6_numberOfLeadingZeros_0f7a4 2 (some .int), Cond.constant RJ6 264 (65536), Cond.methodLink RX1 130 yX1_omegaLength, Cond.static yX1_omegaLength, Cond.code yX1_omegaLength cX1_omegaLength 7 (some .int), Cond.methodLink RX1 133 yX1_fibonacciLength]
def wsX1_begun_r3 : List Cond := [Cond.instanceMethod yX1_fibonacciLength, Cond.selects RX1 yX1_fibonacciLength yX1_fibonacciLength, Cond.code yX1_fibonacciLength cX1_fibonacciLength 7 (some .int), Cond.fieldLink RX1 24 "SelfEndingCodes" "fibonacci" "[J", Cond.methodLink RX1 136 yX1_golombLength, Cond.static yX1_golombLength, Cond.code yX1_golombLength cX1_golombLength 8 (some .long), Cond.methodLink RX1 149 yX1_golombWidth, Cond.static yX1_golombWidth, Cond.code yX1_golombWidth cX1_golombWidth 1 (some .int), Cond.methodLink RX1 152 yX1_golombShortRests, Cond.static yX1_golombShortRests, Cond.code yX1_golombShortRests cX1_golombShortRests 2 (some .long), Cond.methodLink RX1 140 yX1_groupsOf, Cond.static yX1_groupsOf, Cond.code yX1_groupsOf cX1_groupsOf 3 (some .int), Cond.methodLink RX1 155 Lib.Math.max.name, Cond.static Lib.Math.max.name, Cond.initialized "java/lang/Math", Cond.code Lib.Math.max.name Lib.Math.max.code 2 (some .int)]
def wsX1_begun : List Cond := .code yX1_begun cX1_begun 11 (some .long) :: ((wsX1_begun_r1 ++ (wsX1_begun_r2 ++ wsX1_begun_r3)) ++ wsX10 ++ (vx_atS RX1 56 "java/lang/IllegalArgumentException" ["java/lang/RuntimeException", "java/lang/Exception"]).filter goodWord)
def wsX1_fold : List Cond := .code yX1_fold cX1_fold 3 (some .long) :: ([.classLink RX1 52 "java/lang/IllegalArgumentException", .initialized "java/lang/IllegalArgumentException", .constantLong RX1 108 (2305843009213693952), .constantLong RX1 110 (-2305843009213693952), .constantLong RX1 27 (2)] ++ (vx_atS RX1 56 "java/lang/IllegalArgumentException" ["java/lang/RuntimeException", "java/lang/Exception"]).filter goodWord)
def wsX1_unfold : List Cond := .code yX1_unfold cX1_unfold 3 (some .long) :: ([.constantLong RX1 27 (2), .methodLink RX1 33 yX1_requireNumber, .static yX1_requireNumber, .initialized RX1, .code yX1_requireNumber cX1_requireNumber 2 none, .classLink RX1 52 "java/lang/IllegalArgumentException", .initialized "java/lang/IllegalArgumentException", .constantLong RX1 106 (4611686018427387904)] ++ (vx_atS RX1 56 "java/lang/IllegalArgumentException" ["java/lang/RuntimeException", "java/lang/Exception"]).filter goodWord)
def wsX2_init : List Cond := .code yX2_init cX2_init 2 none :: ([.methodLink RX2 1 objectInit, .instanceMethod objectInit, .code objectInit ⟨#[0xb1]⟩ 1 none, .arrayClass .int, .fieldLink RX2 7 "SelfEndingCodesModel" "row" "[I", .arrayClass .long, .fieldLink RX2 13 "SelfEndingCodesModel" "list" "[J", .fieldLink RX2 17 "SelfEndingCodesModel" "word" "[I", .fieldLink RX2 20 "SelfEndingCodesModel" "sums" "[J", .constantLong RX2 23 (2)] ++ wsX20)
def wsX2_thrown : List Cond := .code yX2_thrown cX2_thrown 1 (some .int) :: ([.fieldLink RX2 25 "SelfEndingCodesModel" "thrown" "I"] ++ wsX20)
def wsX2_noKind : List Cond := .code yX2_noKind cX2_noKind 2 (some .boolean) :: ([.constant RX2 29 (1000000)])
def wsX2_noNumber : List Cond := .code yX2_noNumber cX2_noNumber 2 (some .boolean) :: ([.constantLong RX2 30 (4611686018427387904)])
def wsX2_bitsOf : List Cond := .code yX2_bitsOf cX2_bitsOf 5 (some .int) :: ([.constantLong RX2 23 (2)])
def wsX2_powerFor : List Cond := .code yX2_powerFor cX2_powerFor 2 (some .int) :: ([])
def wsX2_byChain : List Cond := .code yX2_byChain cX2_byChain 7 (some .long) :: ([.methodLink RX2 32 yX2_bitsOf, .static yX2_bitsOf, .initialized RX2, .code yX2_bitsOf cX2_bitsOf 5 (some .int), .constantLong RX2 23 (2)])
def wsX2_greatest : List Cond := .code yX2_greatest cX2_greatest 4 (some .int) :: ([.fieldLink RX2 20 "SelfEndingCodesModel" "sums" "[J"] ++ wsX20)
def wsX2_lengthOf : List Cond := .code yX2_lengthOf cX2_lengthOf 11 (some .long) :: ([.constantLong RX2 23 (2), .methodLink RX2 32 yX2_bitsOf, .static yX2_bitsOf, .initialized RX2, .code yX2_bitsOf cX2_bitsOf 5 (some .int), .methodLink RX2 36 yX2_byChain, .static yX2_byChain, .code yX2_byChain cX2_byChain 7 (some .long), .methodLink RX2 40 yX2_greatest, .instanceMethod yX2_greatest, .selects RX2 yX2_greatest yX2_greatest, .code yX2_greatest cX2_greatest 4 (some .int), .fieldLink RX2 20 "SelfEndingCodesModel" "sums" "[J", .methodLink RX2 43 yX2_powerFor, .static yX2_powerFor, .code yX2_powerFor cX2_powerFor 2 (some .int)] ++ wsX20)
def wsX2_bit : List Cond := .code yX2_bit cX2_bit 2 none :: ([.fieldLink RX2 17 "SelfEndingCodesModel" "word" "[I", .fieldLink RX2 47 "SelfEndingCodesModel" "made" "I"] ++ wsX20)
def wsX2_low : List Cond := .code yX2_low cX2_low 5 none :: ([.methodLink RX2 50 yX2_bit, .instanceMethod yX2_bit, .selects RX2 yX2_bit yX2_bit, .initialized RX2, .code yX2_bit cX2_bit 2 none, .fieldLink RX2 17 "SelfEndingCodesModel" "word" "[I", .fieldLink RX2 47 "SelfEndingCodesModel" "made" "I"] ++ wsX20)
def wsX2_doubled : List Cond := .code yX2_doubled cX2_doubled 5 none :: ([.methodLink RX2 32 yX2_bitsOf, .static yX2_bitsOf, .initialized RX2, .code yX2_bitsOf cX2_bitsOf 5 (some .int), .constantLong RX2 23 (2), .methodLink RX2 50 yX2_bit, .instanceMethod yX2_bit, .selects RX2 yX2_bit yX2_bit, .code yX2_bit cX2_bit 2 none, .fieldLink RX2 17 "SelfEndingCodesModel" "word" "[I", .fieldLink RX2 47 "SelfEndingCodesModel" "made" "I", .methodLink RX2 54 yX2_low, .instanceMethod yX2_low, .selects RX2 yX2_low yX2_low, .code yX2_low cX2_low 5 none] ++ wsX20)
def wsX2_ones : List Cond := .code yX2_ones cX2_ones 5 none :: ([.methodLink RX2 50 yX2_bit, .instanceMethod yX2_bit, .selects RX2 yX2_bit yX2_bit, .initialized RX2, .code yX2_bit cX2_bit 2 none, .fieldLink RX2 17 "SelfEndingCodesModel" "word" "[I", .fieldLink RX2 47 "SelfEndingCodesModel" "made" "I"] ++ wsX20)
def wsX2_chain : List Cond := .code yX2_chain cX2_chain 9 none :: ([.fieldLink RX2 17 "SelfEndingCodesModel" "word" "[I", .fieldLink RX2 47 "SelfEndingCodesModel" "made" "I", .methodLink RX2 36 yX2_byChain, .static yX2_byChain, .initialized RX2, .code yX2_byChain cX2_byChain 7 (some .long), .methodLink RX2 32 yX2_bitsOf, .static yX2_bitsOf, .code yX2_bitsOf cX2_bitsOf 5 (some .int), .constantLong RX2 23 (2)] ++ wsX20)
def wsX2_bySums : List Cond := .code yX2_bySums cX2_bySums 8 none :: ([.fieldLink RX2 20 "SelfEndingCodesModel" "sums" "[J", .fieldLink RX2 17 "SelfEndingCodesModel" "word" "[I", .fieldLink RX2 47 "SelfEndingCodesModel" "made" "I", .methodLink RX2 40 yX2_greatest, .instanceMethod yX2_greatest, .selects RX2 yX2_greatest yX2_greatest, .initialized RX2, .code yX2_greatest cX2_greatest 4 (some .int)] ++ wsX20)
def wsX2_byQuotient : List Cond := .code yX2_byQuotient cX2_byQuotient 9 none :: ([.methodLink RX2 58 yX2_ones, .instanceMethod yX2_ones, .selects RX2 yX2_ones yX2_ones, .initialized RX2, .code yX2_ones cX2_ones 5 none, .methodLink RX2 50 yX2_bit, .instanceMethod yX2_bit, .selects RX2 yX2_bit yX2_bit, .code yX2_bit cX2_bit 2 none, .fieldLink RX2 17 "SelfEndingCodesModel" "word" "[I", .fieldLink RX2 47 "SelfEndingCodesModel" "made" "I", .methodLink RX2 43 yX2_powerFor, .static yX2_powerFor, .code yX2_powerFor cX2_powerFor 2 (some .int), .methodLink RX2 54 yX2_low, .instanceMethod yX2_low, .selects RX2 yX2_low yX2_low, .code yX2_low cX2_low 5 none] ++ wsX20)
def wsX2_byGroups : List Cond := .code yX2_byGroups cX2_byGroups 9 none :: ([.methodLink RX2 50 yX2_bit, .instanceMethod yX2_bit, .selects RX2 yX2_bit yX2_bit, .initialized RX2, .code yX2_bit cX2_bit 2 none, .fieldLink RX2 17 "SelfEndingCodesModel" "word" "[I", .fieldLink RX2 47 "SelfEndingCodesModel" "made" "I", .methodLink RX2 54 yX2_low, .instanceMethod yX2_low, .selects RX2 yX2_low yX2_low, .code yX2_low cX2_low 5 none] ++ wsX20)
def wsX2_make_r1 : List Cond := [Cond.fieldLink RX2 47 "SelfEndingCodesModel" "made" "I", Cond.methodLink RX2 58 yX2_ones, Cond.instanceMethod yX2_ones, Cond.selects RX2 yX2_ones yX2_ones, Cond.initialized RX2, Cond.code yX2_ones cX2_ones 5 none, Cond.methodLink RX2 50 yX2_bit, Cond.instanceMethod yX2_bit, Cond.selects RX2 yX2_bit yX2_bit, Cond.code yX2_bit cX2_bit 2 none, Cond.fieldLink RX2 17 "SelfEndingCodesModel" "word" "[I", Cond.methodLink RX2 62 yX2_doubled, Cond.instanceMethod yX2_doubled, Cond.selects RX2 yX2_doubled yX2_doubled, Cond.code yX2_doubled cX2_doubled 5 none, Cond.methodLink RX2 32 yX2_bitsOf, Cond.static yX2_bitsOf, Cond.code yX2_bitsOf cX2_bitsOf 5 (some .int), Cond.constantLong RX2 23 (2), Cond.methodLink RX2 54 yX2_low, Cond.instanceMethod yX2_low, Cond.selects RX2 yX2_low yX2_low, Cond.code yX2_low cX2_low 5 none, Cond.methodLink RX2 65 yX2_chain]
def wsX2_make_r2 : List Cond := [Cond.instanceMethod yX2_chain, Cond.selects RX2 yX2_chain yX2_chain, Cond.code yX2_chain cX2_chain 9 none, Cond.methodLink RX2 36 yX2_byChain, Cond.static yX2_byChain, Cond.code yX2_byChain cX2_byChain 7 (some .long), Cond.methodLink RX2 68 yX2_bySums, Cond.instanceMethod yX2_bySums, Cond.selects RX2 yX2_bySums yX2_bySums, Cond.code yX2_bySums cX2_bySums 8 none, Cond.fieldLink RX2 20 "SelfEndingCodesModel" "sums" "[J", Cond.methodLink RX2 40 yX2_greatest, Cond.instanceMethod yX2_greatest, Cond.selects RX2 yX2_greatest yX2_greatest, Cond.code yX2_greatest cX2_greatest 4 (some .int), Cond.methodLink RX2 71 yX2_byQuotient, Cond.instanceMethod yX2_byQuotient, Cond.selects RX2 yX2_byQuotient yX2_byQuotient, Cond.code yX2_byQuotient cX2_byQuotient 9 none, Cond.methodLink RX2 43 yX2_powerFor, Cond.static yX2_powerFor, Cond.code yX2_powerFor cX2_powerFor 2 (some .int), Cond.methodLink RX2 75 yX2_byGroups, Cond.instanceMethod yX2_byGroups]
def wsX2_make_r3 : List Cond := [Cond.selects RX2 yX2_byGroups yX2_byGroups, Cond.code yX2_byGroups cX2_byGroups 9 none]
def wsX2_make : List Cond := .code yX2_make cX2_make 5 none :: ((wsX2_make_r1 ++ (wsX2_make_r2 ++ wsX2_make_r3)) ++ wsX20)
def wsX2_puts_r1 : List Cond := [Cond.fieldLink RX2 82 "SelfEndingCodesModel" "many" "I", Cond.fieldLink RX2 47 "SelfEndingCodesModel" "made" "I", Cond.fieldLink RX2 7 "SelfEndingCodesModel" "row" "[I", Cond.fieldLink RX2 17 "SelfEndingCodesModel" "word" "[I", Cond.methodLink RX2 78 yX2_lengthOf, Cond.instanceMethod yX2_lengthOf, Cond.selects RX2 yX2_lengthOf yX2_lengthOf, Cond.initialized RX2, Cond.code yX2_lengthOf cX2_lengthOf 11 (some .long), Cond.constantLong RX2 23 (2), Cond.methodLink RX2 32 yX2_bitsOf, Cond.static yX2_bitsOf, Cond.code yX2_bitsOf cX2_bitsOf 5 (some .int), Cond.methodLink RX2 36 yX2_byChain, Cond.static yX2_byChain, Cond.code yX2_byChain cX2_byChain 7 (some .long), Cond.methodLink RX2 40 yX2_greatest, Cond.instanceMethod yX2_greatest, Cond.selects RX2 yX2_greatest yX2_greatest, Cond.code yX2_greatest cX2_greatest 4 (some .int), Cond.fieldLink RX2 20 "SelfEndingCodesModel" "sums" "[J", Cond.methodLink RX2 43 yX2_powerFor, Cond.static yX2_powerFor, Cond.code yX2_powerFor cX2_powerFor 2 (some .int)]
def wsX2_puts_r2 : List Cond := [Cond.methodLink RX2 85 yX2_make, Cond.instanceMethod yX2_make, Cond.selects RX2 yX2_make yX2_make, Cond.code yX2_make cX2_make 5 none, Cond.methodLink RX2 58 yX2_ones, Cond.instanceMethod yX2_ones, Cond.selects RX2 yX2_ones yX2_ones, Cond.code yX2_ones cX2_ones 5 none, Cond.methodLink RX2 50 yX2_bit, Cond.instanceMethod yX2_bit, Cond.selects RX2 yX2_bit yX2_bit, Cond.code yX2_bit cX2_bit 2 none, Cond.methodLink RX2 62 yX2_doubled, Cond.instanceMethod yX2_doubled, Cond.selects RX2 yX2_doubled yX2_doubled, Cond.code yX2_doubled cX2_doubled 5 none, Cond.methodLink RX2 54 yX2_low, Cond.instanceMethod yX2_low, Cond.selects RX2 yX2_low yX2_low, Cond.code yX2_low cX2_low 5 none, Cond.methodLink RX2 65 yX2_chain, Cond.instanceMethod yX2_chain, Cond.selects RX2 yX2_chain yX2_chain, Cond.code yX2_chain cX2_chain 9 none]
def wsX2_puts_r3 : List Cond := [Cond.methodLink RX2 68 yX2_bySums, Cond.instanceMethod yX2_bySums, Cond.selects RX2 yX2_bySums yX2_bySums, Cond.code yX2_bySums cX2_bySums 8 none, Cond.methodLink RX2 71 yX2_byQuotient, Cond.instanceMethod yX2_byQuotient, Cond.selects RX2 yX2_byQuotient yX2_byQuotient, Cond.code yX2_byQuotient cX2_byQuotient 9 none, Cond.methodLink RX2 75 yX2_byGroups, Cond.instanceMethod yX2_byGroups, Cond.selects RX2 yX2_byGroups yX2_byGroups, Cond.code yX2_byGroups cX2_byGroups 9 none]
def wsX2_puts : List Cond := .code yX2_puts cX2_puts 6 (some .boolean) :: ((wsX2_puts_r1 ++ (wsX2_puts_r2 ++ wsX2_puts_r3)) ++ wsX20)
def wsX2_next : List Cond := .code yX2_next cX2_next 1 (some .int) :: ([.fieldLink RX2 89 "SelfEndingCodesModel" "from" "I", .fieldLink RX2 82 "SelfEndingCodesModel" "many" "I", .fieldLink RX2 92 "SelfEndingCodesModel" "none" "Z", .fieldLink RX2 7 "SelfEndingCodesModel" "row" "[I"] ++ wsX20)
def wsX2_some : List Cond := .code yX2_some cX2_some 5 (some .long) :: ([.fieldLink RX2 92 "SelfEndingCodesModel" "none" "Z", .constantLong RX2 23 (2), .methodLink RX2 96 yX2_next, .instanceMethod yX2_next, .selects RX2 yX2_next yX2_next, .initialized RX2, .code yX2_next cX2_next 1 (some .int), .fieldLink RX2 89 "SelfEndingCodesModel" "from" "I", .fieldLink RX2 82 "SelfEndingCodesModel" "many" "I", .fieldLink RX2 7 "SelfEndingCodesModel" "row" "[I"] ++ wsX20)
def wsX2_run : List Cond := .code yX2_run cX2_run 3 (some .int) :: ([.fieldLink RX2 92 "SelfEndingCodesModel" "none" "Z", .fieldLink RX2 89 "SelfEndingCodesModel" "from" "I", .fieldLink RX2 82 "SelfEndingCodesModel" "many" "I", .fieldLink RX2 7 "SelfEndingCodesModel" "row" "[I"] ++ wsX20)
def wsX2_readDoubled : List Cond := .code yX2_readDoubled cX2_readDoubled 2 (some .long) :: ([.fieldLink RX2 92 "SelfEndingCodesModel" "none" "Z", .methodLink RX2 100 yX2_run, .instanceMethod yX2_run, .selects RX2 yX2_run yX2_run, .initialized RX2, .code yX2_run cX2_run 3 (some .int), .fieldLink RX2 89 "SelfEndingCodesModel" "from" "I", .fieldLink RX2 82 "SelfEndingCodesModel" "many" "I", .fieldLink RX2 7 "SelfEndingCodesModel" "row" "[I", .methodLink RX2 103 yX2_some, .instanceMethod yX2_some, .selects RX2 yX2_some yX2_some, .code yX2_some cX2_some 5 (some .long), .constantLong RX2 23 (2), .methodLink RX2 96 yX2_next, .instanceMethod yX2_next, .selects RX2 yX2_next yX2_next, .code yX2_next cX2_next 1 (some .int)] ++ wsX20)
def wsX2_readChain : List Cond := .code yX2_readChain cX2_readChain 5 (some .long) :: ([.fieldLink RX2 92 "SelfEndingCodesModel" "none" "Z", .constantLong RX2 107 (62), .methodLink RX2 96 yX2_next, .instanceMethod yX2_next, .selects RX2 yX2_next yX2_next, .initialized RX2, .code yX2_next cX2_next 1 (some .int), .fieldLink RX2 89 "SelfEndingCodesModel" "from" "I", .fieldLink RX2 82 "SelfEndingCodesModel" "many" "I", .fieldLink RX2 7 "SelfEndingCodesModel" "row" "[I", .methodLink RX2 103 yX2_some, .instanceMethod yX2_some, .selects RX2 yX2_some yX2_some, .code yX2_some cX2_some 5 (some .long), .constantLong RX2 23 (2)] ++ wsX20)
def wsX2_readSums : List Cond := .code yX2_readSums cX2_readSums 7 (some .long) :: ([.fieldLink RX2 92 "SelfEndingCodesModel" "none" "Z", .fieldLink RX2 20 "SelfEndingCodesModel" "sums" "[J", .constantLong RX2 30 (4611686018427387904), .methodLink RX2 96 yX2_next, .instanceMethod yX2_next, .selects RX2 yX2_next yX2_next, .initialized RX2, .code yX2_next cX2_next 1 (some .int), .fieldLink RX2 89 "SelfEndingCodesModel" "from" "I", .fieldLink RX2 82 "SelfEndingCodesModel" "many" "I", .fieldLink RX2 7 "SelfEndingCodesModel" "row" "[I"] ++ wsX20)
def wsX2_readQuotient : List Cond := .code yX2_readQuotient cX2_readQuotient 9 (some .long) :: ([.fieldLink RX2 92 "SelfEndingCodesModel" "none" "Z", .fieldLink RX2 89 "SelfEndingCodesModel" "from" "I", .constantLong RX2 23 (2), .methodLink RX2 100 yX2_run, .instanceMethod yX2_run, .selects RX2 yX2_run yX2_run, .initialized RX2, .code yX2_run cX2_run 3 (some .int), .fieldLink RX2 82 "SelfEndingCodesModel" "many" "I", .fieldLink RX2 7 "SelfEndingCodesModel" "row" "[I", .methodLink RX2 43 yX2_powerFor, .static yX2_powerFor, .code yX2_powerFor cX2_powerFor 2 (some .int), .methodLink RX2 103 yX2_some, .instanceMethod yX2_some, .selects RX2 yX2_some yX2_some, .code yX2_some cX2_some 5 (some .long), .methodLink RX2 96 yX2_next, .instanceMethod yX2_next, .selects RX2 yX2_next yX2_next, .code yX2_next cX2_next 1 (some .int)] ++ wsX20)
def wsX2_readShort : List Cond := .code yX2_readShort cX2_readShort 6 (some .long) :: ([.fieldLink RX2 92 "SelfEndingCodesModel" "none" "Z", .constantLong RX2 113 (4611686018427387903), .methodLink RX2 109 yX2_readDoubled, .instanceMethod yX2_readDoubled, .selects RX2 yX2_readDoubled yX2_readDoubled, .initialized RX2, .code yX2_readDoubled cX2_readDoubled 2 (some .long), .methodLink RX2 100 yX2_run, .instanceMethod yX2_run, .selects RX2 yX2_run yX2_run, .code yX2_run cX2_run 3 (some .int), .fieldLink RX2 89 "SelfEndingCodesModel" "from" "I", .fieldLink RX2 82 "SelfEndingCodesModel" "many" "I", .fieldLink RX2 7 "SelfEndingCodesModel" "row" "[I", .methodLink RX2 103 yX2_some, .instanceMethod yX2_some, .selects RX2 yX2_some yX2_some, .code yX2_some cX2_some 5 (some .long), .constantLong RX2 23 (2), .methodLink RX2 96 yX2_next, .instanceMethod yX2_next, .selects RX2 yX2_next yX2_next, .code yX2_next cX2_next 1 (some .int)] ++ wsX20)
def wsX2_readGroups : List Cond := .code yX2_readGroups cX2_readGroups 8 (some .long) :: ([.fieldLink RX2 92 "SelfEndingCodesModel" "none" "Z", .constantLong RX2 113 (4611686018427387903), .methodLink RX2 96 yX2_next, .instanceMethod yX2_next, .selects RX2 yX2_next yX2_next, .initialized RX2, .code yX2_next cX2_next 1 (some .int), .fieldLink RX2 89 "SelfEndingCodesModel" "from" "I", .fieldLink RX2 82 "SelfEndingCodesModel" "many" "I", .fieldLink RX2 7 "SelfEndingCodesModel" "row" "[I", .methodLink RX2 103 yX2_some, .instanceMethod yX2_some, .selects RX2 yX2_some yX2_some, .code yX2_some cX2_some 5 (some .long), .constantLong RX2 23 (2)] ++ wsX20)
def wsX2_reads_r1 : List Cond := [Cond.fieldLink RX2 115 "SelfEndingCodesModel" "at" "I", Cond.fieldLink RX2 89 "SelfEndingCodesModel" "from" "I", Cond.fieldLink RX2 92 "SelfEndingCodesModel" "none" "Z", Cond.constantLong RX2 118 (63), Cond.constantLong RX2 30 (4611686018427387904), Cond.constantLong RX2 135 (-1), Cond.methodLink RX2 100 yX2_run, Cond.instanceMethod yX2_run, Cond.selects RX2 yX2_run yX2_run, Cond.initialized RX2, Cond.code yX2_run cX2_run 3 (some .int), Cond.fieldLink RX2 82 "SelfEndingCodesModel" "many" "I", Cond.fieldLink RX2 7 "SelfEndingCodesModel" "row" "[I", Cond.methodLink RX2 109 yX2_readDoubled, Cond.instanceMethod yX2_readDoubled, Cond.selects RX2 yX2_readDoubled yX2_readDoubled, Cond.code yX2_readDoubled cX2_readDoubled 2 (some .long), Cond.methodLink RX2 103 yX2_some, Cond.instanceMethod yX2_some, Cond.selects RX2 yX2_some yX2_some, Cond.code yX2_some cX2_some 5 (some .long), Cond.constantLong RX2 23 (2), Cond.methodLink RX2 96 yX2_next, Cond.instanceMethod yX2_next]
def wsX2_reads_r2 : List Cond := [Cond.selects RX2 yX2_next yX2_next, Cond.code yX2_next cX2_next 1 (some .int), Cond.methodLink RX2 120 yX2_readChain, Cond.instanceMethod yX2_readChain, Cond.selects RX2 yX2_readChain yX2_readChain, Cond.code yX2_readChain cX2_readChain 5 (some .long), Cond.constantLong RX2 107 (62), Cond.methodLink RX2 123 yX2_readSums, Cond.instanceMethod yX2_readSums, Cond.selects RX2 yX2_readSums yX2_readSums, Cond.code yX2_readSums cX2_readSums 7 (some .long), Cond.fieldLink RX2 20 "SelfEndingCodesModel" "sums" "[J", Cond.methodLink RX2 126 yX2_readQuotient, Cond.instanceMethod yX2_readQuotient, Cond.selects RX2 yX2_readQuotient yX2_readQuotient, Cond.code yX2_readQuotient cX2_readQuotient 9 (some .long), Cond.methodLink RX2 43 yX2_powerFor, Cond.static yX2_powerFor, Cond.code yX2_powerFor cX2_powerFor 2 (some .int), Cond.methodLink RX2 129 yX2_readShort, Cond.instanceMethod yX2_readShort, Cond.selects RX2 yX2_readShort yX2_readShort, Cond.code yX2_readShort cX2_readShort 6 (some .long), Cond.constantLong RX2 113 (4611686018427387903)]
def wsX2_reads_r3 : List Cond := [Cond.methodLink RX2 132 yX2_readGroups, Cond.instanceMethod yX2_readGroups, Cond.selects RX2 yX2_readGroups yX2_readGroups, Cond.code yX2_readGroups cX2_readGroups 8 (some .long)]
def wsX2_reads : List Cond := .code yX2_reads cX2_reads 9 (some .long) :: ((wsX2_reads_r1 ++ (wsX2_reads_r2 ++ wsX2_reads_r3)) ++ wsX20)
def wsX2_firstOf : List Cond := .code yX2_firstOf cX2_firstOf 1 (some .long) :: ([])
def wsX2_lastOf : List Cond := .code yX2_lastOf cX2_lastOf 1 (some .long) :: ([.constantLong RX2 30 (4611686018427387904)])
def wsX2_bitsFor : List Cond := .code yX2_bitsFor cX2_bitsFor 4 (some .int) :: ([.methodLink RX2 137 yX2_firstOf, .static yX2_firstOf, .initialized RX2, .code yX2_firstOf cX2_firstOf 1 (some .long), .methodLink RX2 78 yX2_lengthOf, .instanceMethod yX2_lengthOf, .selects RX2 yX2_lengthOf yX2_lengthOf, .code yX2_lengthOf cX2_lengthOf 11 (some .long), .constantLong RX2 23 (2), .methodLink RX2 32 yX2_bitsOf, .static yX2_bitsOf, .code yX2_bitsOf cX2_bitsOf 5 (some .int), .methodLink RX2 36 yX2_byChain, .static yX2_byChain, .code yX2_byChain cX2_byChain 7 (some .long), .methodLink RX2 40 yX2_greatest, .instanceMethod yX2_greatest, .selects RX2 yX2_greatest yX2_greatest, .code yX2_greatest cX2_greatest 4 (some .int), .fieldLink RX2 20 "SelfEndingCodesModel" "sums" "[J", .methodLink RX2 43 yX2_powerFor, .static yX2_powerFor, .code yX2_powerFor cX2_powerFor 2 (some .int)] ++ wsX20)
def wsX2_edge_r1 : List Cond := [Cond.fieldLink RX2 20 "SelfEndingCodesModel" "sums" "[J", Cond.constantLong RX2 30 (4611686018427387904), Cond.methodLink RX2 140 yX2_bitsFor, Cond.instanceMethod yX2_bitsFor, Cond.selects RX2 yX2_bitsFor yX2_bitsFor, Cond.initialized RX2, Cond.code yX2_bitsFor cX2_bitsFor 4 (some .int), Cond.methodLink RX2 137 yX2_firstOf, Cond.static yX2_firstOf, Cond.code yX2_firstOf cX2_firstOf 1 (some .long), Cond.methodLink RX2 78 yX2_lengthOf, Cond.instanceMethod yX2_lengthOf, Cond.selects RX2 yX2_lengthOf yX2_lengthOf, Cond.code yX2_lengthOf cX2_lengthOf 11 (some .long), Cond.constantLong RX2 23 (2), Cond.methodLink RX2 32 yX2_bitsOf, Cond.static yX2_bitsOf, Cond.code yX2_bitsOf cX2_bitsOf 5 (some .int), Cond.methodLink RX2 36 yX2_byChain, Cond.static yX2_byChain, Cond.code yX2_byChain cX2_byChain 7 (some .long), Cond.methodLink RX2 40 yX2_greatest, Cond.instanceMethod yX2_greatest, Cond.selects RX2 yX2_greatest yX2_greatest]
def wsX2_edge_r2 : List Cond := [Cond.code yX2_greatest cX2_greatest 4 (some .int), Cond.methodLink RX2 43 yX2_powerFor, Cond.static yX2_powerFor, Cond.code yX2_powerFor cX2_powerFor 2 (some .int), Cond.methodLink RX2 144 yX2_lastOf, Cond.static yX2_lastOf, Cond.code yX2_lastOf cX2_lastOf 1 (some .long)]
def wsX2_edge : List Cond := .code yX2_edge cX2_edge 10 (some .long) :: ((wsX2_edge_r1 ++ wsX2_edge_r2) ++ wsX20)
def wsX2_countOf_r1 : List Cond := [Cond.methodLink RX2 147 yX2_edge, Cond.instanceMethod yX2_edge, Cond.selects RX2 yX2_edge yX2_edge, Cond.initialized RX2, Cond.code yX2_edge cX2_edge 10 (some .long), Cond.fieldLink RX2 20 "SelfEndingCodesModel" "sums" "[J", Cond.constantLong RX2 30 (4611686018427387904), Cond.methodLink RX2 140 yX2_bitsFor, Cond.instanceMethod yX2_bitsFor, Cond.selects RX2 yX2_bitsFor yX2_bitsFor, Cond.code yX2_bitsFor cX2_bitsFor 4 (some .int), Cond.methodLink RX2 137 yX2_firstOf, Cond.static yX2_firstOf, Cond.code yX2_firstOf cX2_firstOf 1 (some .long), Cond.methodLink RX2 78 yX2_lengthOf, Cond.instanceMethod yX2_lengthOf, Cond.selects RX2 yX2_lengthOf yX2_lengthOf, Cond.code yX2_lengthOf cX2_lengthOf 11 (some .long), Cond.constantLong RX2 23 (2), Cond.methodLink RX2 32 yX2_bitsOf, Cond.static yX2_bitsOf, Cond.code yX2_bitsOf cX2_bitsOf 5 (some .int), Cond.methodLink RX2 36 yX2_byChain, Cond.static yX2_byChain]
def wsX2_countOf_r2 : List Cond := [Cond.code yX2_byChain cX2_byChain 7 (some .long), Cond.methodLink RX2 40 yX2_greatest, Cond.instanceMethod yX2_greatest, Cond.selects RX2 yX2_greatest yX2_greatest, Cond.code yX2_greatest cX2_greatest 4 (some .int), Cond.methodLink RX2 43 yX2_powerFor, Cond.static yX2_powerFor, Cond.code yX2_powerFor cX2_powerFor 2 (some .int), Cond.methodLink RX2 144 yX2_lastOf, Cond.static yX2_lastOf, Cond.code yX2_lastOf cX2_lastOf 1 (some .long)]
def wsX2_countOf : List Cond := .code yX2_countOf cX2_countOf 7 (some .long) :: ((wsX2_countOf_r1 ++ wsX2_countOf_r2) ++ wsX20)
def wsX2_leastOf_r1 : List Cond := [Cond.methodLink RX2 147 yX2_edge, Cond.instanceMethod yX2_edge, Cond.selects RX2 yX2_edge yX2_edge, Cond.initialized RX2, Cond.code yX2_edge cX2_edge 10 (some .long), Cond.fieldLink RX2 20 "SelfEndingCodesModel" "sums" "[J", Cond.constantLong RX2 30 (4611686018427387904), Cond.methodLink RX2 140 yX2_bitsFor, Cond.instanceMethod yX2_bitsFor, Cond.selects RX2 yX2_bitsFor yX2_bitsFor, Cond.code yX2_bitsFor cX2_bitsFor 4 (some .int), Cond.methodLink RX2 137 yX2_firstOf, Cond.static yX2_firstOf, Cond.code yX2_firstOf cX2_firstOf 1 (some .long), Cond.methodLink RX2 78 yX2_lengthOf, Cond.instanceMethod yX2_lengthOf, Cond.selects RX2 yX2_lengthOf yX2_lengthOf, Cond.code yX2_lengthOf cX2_lengthOf 11 (some .long), Cond.constantLong RX2 23 (2), Cond.methodLink RX2 32 yX2_bitsOf, Cond.static yX2_bitsOf, Cond.code yX2_bitsOf cX2_bitsOf 5 (some .int), Cond.methodLink RX2 36 yX2_byChain, Cond.static yX2_byChain]
def wsX2_leastOf_r2 : List Cond := [Cond.code yX2_byChain cX2_byChain 7 (some .long), Cond.methodLink RX2 40 yX2_greatest, Cond.instanceMethod yX2_greatest, Cond.selects RX2 yX2_greatest yX2_greatest, Cond.code yX2_greatest cX2_greatest 4 (some .int), Cond.methodLink RX2 43 yX2_powerFor, Cond.static yX2_powerFor, Cond.code yX2_powerFor cX2_powerFor 2 (some .int), Cond.methodLink RX2 144 yX2_lastOf, Cond.static yX2_lastOf, Cond.code yX2_lastOf cX2_lastOf 1 (some .long)]
def wsX2_leastOf : List Cond := .code yX2_leastOf cX2_leastOf 7 (some .long) :: ((wsX2_leastOf_r1 ++ wsX2_leastOf_r2) ++ wsX20)
def wsX2_length_r1 : List Cond := [Cond.fieldLink RX2 25 "SelfEndingCodesModel" "thrown" "I", Cond.methodLink RX2 151 yX2_noKind, Cond.static yX2_noKind, Cond.initialized RX2, Cond.code yX2_noKind cX2_noKind 2 (some .boolean), Cond.constant RX2 29 (1000000), Cond.methodLink RX2 155 yX2_noNumber, Cond.static yX2_noNumber, Cond.code yX2_noNumber cX2_noNumber 2 (some .boolean), Cond.constantLong RX2 30 (4611686018427387904), Cond.methodLink RX2 78 yX2_lengthOf, Cond.instanceMethod yX2_lengthOf, Cond.selects RX2 yX2_lengthOf yX2_lengthOf, Cond.code yX2_lengthOf cX2_lengthOf 11 (some .long), Cond.constantLong RX2 23 (2), Cond.methodLink RX2 32 yX2_bitsOf, Cond.static yX2_bitsOf, Cond.code yX2_bitsOf cX2_bitsOf 5 (some .int), Cond.methodLink RX2 36 yX2_byChain, Cond.static yX2_byChain, Cond.code yX2_byChain cX2_byChain 7 (some .long), Cond.methodLink RX2 40 yX2_greatest, Cond.instanceMethod yX2_greatest, Cond.selects RX2 yX2_greatest yX2_greatest]
def wsX2_length_r2 : List Cond := [Cond.code yX2_greatest cX2_greatest 4 (some .int), Cond.fieldLink RX2 20 "SelfEndingCodesModel" "sums" "[J", Cond.methodLink RX2 43 yX2_powerFor, Cond.static yX2_powerFor, Cond.code yX2_powerFor cX2_powerFor 2 (some .int)]
def wsX2_length : List Cond := .code yX2_length cX2_length 5 (some .long) :: ((wsX2_length_r1 ++ wsX2_length_r2) ++ wsX20)
def wsX2_put_r1 : List Cond := [Cond.fieldLink RX2 25 "SelfEndingCodesModel" "thrown" "I", Cond.fieldLink RX2 82 "SelfEndingCodesModel" "many" "I", Cond.methodLink RX2 151 yX2_noKind, Cond.static yX2_noKind, Cond.initialized RX2, Cond.code yX2_noKind cX2_noKind 2 (some .boolean), Cond.constant RX2 29 (1000000), Cond.methodLink RX2 155 yX2_noNumber, Cond.static yX2_noNumber, Cond.code yX2_noNumber cX2_noNumber 2 (some .boolean), Cond.constantLong RX2 30 (4611686018427387904), Cond.methodLink RX2 159 yX2_puts, Cond.instanceMethod yX2_puts, Cond.selects RX2 yX2_puts yX2_puts, Cond.code yX2_puts cX2_puts 6 (some .boolean), Cond.fieldLink RX2 47 "SelfEndingCodesModel" "made" "I", Cond.fieldLink RX2 7 "SelfEndingCodesModel" "row" "[I", Cond.fieldLink RX2 17 "SelfEndingCodesModel" "word" "[I", Cond.methodLink RX2 78 yX2_lengthOf, Cond.instanceMethod yX2_lengthOf, Cond.selects RX2 yX2_lengthOf yX2_lengthOf, Cond.code yX2_lengthOf cX2_lengthOf 11 (some .long), Cond.constantLong RX2 23 (2), Cond.methodLink RX2 32 yX2_bitsOf]
def wsX2_put_r2 : List Cond := [Cond.static yX2_bitsOf, Cond.code yX2_bitsOf cX2_bitsOf 5 (some .int), Cond.methodLink RX2 36 yX2_byChain, Cond.static yX2_byChain, Cond.code yX2_byChain cX2_byChain 7 (some .long), Cond.methodLink RX2 40 yX2_greatest, Cond.instanceMethod yX2_greatest, Cond.selects RX2 yX2_greatest yX2_greatest, Cond.code yX2_greatest cX2_greatest 4 (some .int), Cond.fieldLink RX2 20 "SelfEndingCodesModel" "sums" "[J", Cond.methodLink RX2 43 yX2_powerFor, Cond.static yX2_powerFor, Cond.code yX2_powerFor cX2_powerFor 2 (some .int), Cond.methodLink RX2 85 yX2_make, Cond.instanceMethod yX2_make, Cond.selects RX2 yX2_make yX2_make, Cond.code yX2_make cX2_make 5 none, Cond.methodLink RX2 58 yX2_ones, Cond.instanceMethod yX2_ones, Cond.selects RX2 yX2_ones yX2_ones, Cond.code yX2_ones cX2_ones 5 none, Cond.methodLink RX2 50 yX2_bit, Cond.instanceMethod yX2_bit, Cond.selects RX2 yX2_bit yX2_bit]
def wsX2_put_r3 : List Cond := [Cond.code yX2_bit cX2_bit 2 none, Cond.methodLink RX2 62 yX2_doubled, Cond.instanceMethod yX2_doubled, Cond.selects RX2 yX2_doubled yX2_doubled, Cond.code yX2_doubled cX2_doubled 5 none, Cond.methodLink RX2 54 yX2_low, Cond.instanceMethod yX2_low, Cond.selects RX2 yX2_low yX2_low, Cond.code yX2_low cX2_low 5 none, Cond.methodLink RX2 65 yX2_chain, Cond.instanceMethod yX2_chain, Cond.selects RX2 yX2_chain yX2_chain, Cond.code yX2_chain cX2_chain 9 none, Cond.methodLink RX2 68 yX2_bySums, Cond.instanceMethod yX2_bySums, Cond.selects RX2 yX2_bySums yX2_bySums, Cond.code yX2_bySums cX2_bySums 8 none, Cond.methodLink RX2 71 yX2_byQuotient, Cond.instanceMethod yX2_byQuotient, Cond.selects RX2 yX2_byQuotient yX2_byQuotient, Cond.code yX2_byQuotient cX2_byQuotient 9 none, Cond.methodLink RX2 75 yX2_byGroups, Cond.instanceMethod yX2_byGroups, Cond.selects RX2 yX2_byGroups yX2_byGroups]
def wsX2_put_r4 : List Cond := [Cond.code yX2_byGroups cX2_byGroups 9 none]
def wsX2_put : List Cond := .code yX2_put cX2_put 5 (some .int) :: ((wsX2_put_r1 ++ (wsX2_put_r2 ++ (wsX2_put_r3 ++ wsX2_put_r4))) ++ wsX20)
def wsX2_take_r1 : List Cond := [Cond.fieldLink RX2 25 "SelfEndingCodesModel" "thrown" "I", Cond.methodLink RX2 151 yX2_noKind, Cond.static yX2_noKind, Cond.initialized RX2, Cond.code yX2_noKind cX2_noKind 2 (some .boolean), Cond.constant RX2 29 (1000000), Cond.methodLink RX2 163 yX2_reads, Cond.instanceMethod yX2_reads, Cond.selects RX2 yX2_reads yX2_reads, Cond.code yX2_reads cX2_reads 9 (some .long), Cond.fieldLink RX2 115 "SelfEndingCodesModel" "at" "I", Cond.fieldLink RX2 89 "SelfEndingCodesModel" "from" "I", Cond.fieldLink RX2 92 "SelfEndingCodesModel" "none" "Z", Cond.constantLong RX2 118 (63), Cond.constantLong RX2 30 (4611686018427387904), Cond.constantLong RX2 135 (-1), Cond.methodLink RX2 100 yX2_run, Cond.instanceMethod yX2_run, Cond.selects RX2 yX2_run yX2_run, Cond.code yX2_run cX2_run 3 (some .int), Cond.fieldLink RX2 82 "SelfEndingCodesModel" "many" "I", Cond.fieldLink RX2 7 "SelfEndingCodesModel" "row" "[I", Cond.methodLink RX2 109 yX2_readDoubled, Cond.instanceMethod yX2_readDoubled]
def wsX2_take_r2 : List Cond := [Cond.selects RX2 yX2_readDoubled yX2_readDoubled, Cond.code yX2_readDoubled cX2_readDoubled 2 (some .long), Cond.methodLink RX2 103 yX2_some, Cond.instanceMethod yX2_some, Cond.selects RX2 yX2_some yX2_some, Cond.code yX2_some cX2_some 5 (some .long), Cond.constantLong RX2 23 (2), Cond.methodLink RX2 96 yX2_next, Cond.instanceMethod yX2_next, Cond.selects RX2 yX2_next yX2_next, Cond.code yX2_next cX2_next 1 (some .int), Cond.methodLink RX2 120 yX2_readChain, Cond.instanceMethod yX2_readChain, Cond.selects RX2 yX2_readChain yX2_readChain, Cond.code yX2_readChain cX2_readChain 5 (some .long), Cond.constantLong RX2 107 (62), Cond.methodLink RX2 123 yX2_readSums, Cond.instanceMethod yX2_readSums, Cond.selects RX2 yX2_readSums yX2_readSums, Cond.code yX2_readSums cX2_readSums 7 (some .long), Cond.fieldLink RX2 20 "SelfEndingCodesModel" "sums" "[J", Cond.methodLink RX2 126 yX2_readQuotient, Cond.instanceMethod yX2_readQuotient, Cond.selects RX2 yX2_readQuotient yX2_readQuotient]
def wsX2_take_r3 : List Cond := [Cond.code yX2_readQuotient cX2_readQuotient 9 (some .long), Cond.methodLink RX2 43 yX2_powerFor, Cond.static yX2_powerFor, Cond.code yX2_powerFor cX2_powerFor 2 (some .int), Cond.methodLink RX2 129 yX2_readShort, Cond.instanceMethod yX2_readShort, Cond.selects RX2 yX2_readShort yX2_readShort, Cond.code yX2_readShort cX2_readShort 6 (some .long), Cond.constantLong RX2 113 (4611686018427387903), Cond.methodLink RX2 132 yX2_readGroups, Cond.instanceMethod yX2_readGroups, Cond.selects RX2 yX2_readGroups yX2_readGroups, Cond.code yX2_readGroups cX2_readGroups 8 (some .long)]
def wsX2_take : List Cond := .code yX2_take cX2_take 3 (some .long) :: ((wsX2_take_r1 ++ (wsX2_take_r2 ++ wsX2_take_r3)) ++ wsX20)
def wsX2_push : List Cond := .code yX2_push cX2_push 5 (some .int) :: ([.fieldLink RX2 25 "SelfEndingCodesModel" "thrown" "I", .fieldLink RX2 82 "SelfEndingCodesModel" "many" "I", .fieldLink RX2 7 "SelfEndingCodesModel" "row" "[I"] ++ wsX20)
def wsX2_bits : List Cond := .code yX2_bits cX2_bits 7 (some .long) :: ([.fieldLink RX2 25 "SelfEndingCodesModel" "thrown" "I", .constantLong RX2 23 (2), .fieldLink RX2 82 "SelfEndingCodesModel" "many" "I", .fieldLink RX2 7 "SelfEndingCodesModel" "row" "[I"] ++ wsX20)
def wsX2_size : List Cond := .code yX2_size cX2_size 1 (some .int) :: ([.fieldLink RX2 25 "SelfEndingCodesModel" "thrown" "I", .fieldLink RX2 82 "SelfEndingCodesModel" "many" "I"] ++ wsX20)
def wsX2_place : List Cond := .code yX2_place cX2_place 1 (some .int) :: ([.fieldLink RX2 25 "SelfEndingCodesModel" "thrown" "I", .fieldLink RX2 115 "SelfEndingCodesModel" "at" "I"] ++ wsX20)
def wsX2_seek : List Cond := .code yX2_seek cX2_seek 2 none :: ([.fieldLink RX2 82 "SelfEndingCodesModel" "many" "I", .fieldLink RX2 25 "SelfEndingCodesModel" "thrown" "I", .fieldLink RX2 115 "SelfEndingCodesModel" "at" "I"] ++ wsX20)
def wsX2_wipe : List Cond := .code yX2_wipe cX2_wipe 2 (some .int) :: ([.fieldLink RX2 25 "SelfEndingCodesModel" "thrown" "I", .fieldLink RX2 82 "SelfEndingCodesModel" "many" "I", .fieldLink RX2 115 "SelfEndingCodesModel" "at" "I"] ++ wsX20)
def wsX2_add : List Cond := .code yX2_add cX2_add 3 (some .int) :: ([.fieldLink RX2 25 "SelfEndingCodesModel" "thrown" "I", .fieldLink RX2 167 "SelfEndingCodesModel" "listed" "I", .fieldLink RX2 13 "SelfEndingCodesModel" "list" "[J", .methodLink RX2 155 yX2_noNumber, .static yX2_noNumber, .initialized RX2, .code yX2_noNumber cX2_noNumber 2 (some .boolean), .constantLong RX2 30 (4611686018427387904)] ++ wsX20)
def wsX2_get : List Cond := .code yX2_get cX2_get 2 (some .long) :: ([.fieldLink RX2 167 "SelfEndingCodesModel" "listed" "I", .fieldLink RX2 25 "SelfEndingCodesModel" "thrown" "I", .fieldLink RX2 13 "SelfEndingCodesModel" "list" "[J"] ++ wsX20)
def wsX2_clear : List Cond := .code yX2_clear cX2_clear 2 (some .int) :: ([.fieldLink RX2 25 "SelfEndingCodesModel" "thrown" "I", .fieldLink RX2 167 "SelfEndingCodesModel" "listed" "I"] ++ wsX20)
def wsX2_totalOf : List Cond := .code yX2_totalOf cX2_totalOf 8 (some .long) :: ([.fieldLink RX2 167 "SelfEndingCodesModel" "listed" "I", .fieldLink RX2 13 "SelfEndingCodesModel" "list" "[J", .constantLong RX2 30 (4611686018427387904), .methodLink RX2 78 yX2_lengthOf, .instanceMethod yX2_lengthOf, .selects RX2 yX2_lengthOf yX2_lengthOf, .initialized RX2, .code yX2_lengthOf cX2_lengthOf 11 (some .long), .constantLong RX2 23 (2), .methodLink RX2 32 yX2_bitsOf, .static yX2_bitsOf, .code yX2_bitsOf cX2_bitsOf 5 (some .int), .methodLink RX2 36 yX2_byChain, .static yX2_byChain, .code yX2_byChain cX2_byChain 7 (some .long), .methodLink RX2 40 yX2_greatest, .instanceMethod yX2_greatest, .selects RX2 yX2_greatest yX2_greatest, .code yX2_greatest cX2_greatest 4 (some .int), .fieldLink RX2 20 "SelfEndingCodesModel" "sums" "[J", .methodLink RX2 43 yX2_powerFor, .static yX2_powerFor, .code yX2_powerFor cX2_powerFor 2 (some .int)] ++ wsX20)
def wsX2_total_r1 : List Cond := [Cond.fieldLink RX2 25 "SelfEndingCodesModel" "thrown" "I", Cond.methodLink RX2 151 yX2_noKind, Cond.static yX2_noKind, Cond.initialized RX2, Cond.code yX2_noKind cX2_noKind 2 (some .boolean), Cond.constant RX2 29 (1000000), Cond.methodLink RX2 170 yX2_totalOf, Cond.instanceMethod yX2_totalOf, Cond.selects RX2 yX2_totalOf yX2_totalOf, Cond.code yX2_totalOf cX2_totalOf 8 (some .long), Cond.fieldLink RX2 167 "SelfEndingCodesModel" "listed" "I", Cond.fieldLink RX2 13 "SelfEndingCodesModel" "list" "[J", Cond.constantLong RX2 30 (4611686018427387904), Cond.methodLink RX2 78 yX2_lengthOf, Cond.instanceMethod yX2_lengthOf, Cond.selects RX2 yX2_lengthOf yX2_lengthOf, Cond.code yX2_lengthOf cX2_lengthOf 11 (some .long), Cond.constantLong RX2 23 (2), Cond.methodLink RX2 32 yX2_bitsOf, Cond.static yX2_bitsOf, Cond.code yX2_bitsOf cX2_bitsOf 5 (some .int), Cond.methodLink RX2 36 yX2_byChain, Cond.static yX2_byChain, Cond.code yX2_byChain cX2_byChain 7 (some .long)]
def wsX2_total_r2 : List Cond := [Cond.methodLink RX2 40 yX2_greatest, Cond.instanceMethod yX2_greatest, Cond.selects RX2 yX2_greatest yX2_greatest, Cond.code yX2_greatest cX2_greatest 4 (some .int), Cond.fieldLink RX2 20 "SelfEndingCodesModel" "sums" "[J", Cond.methodLink RX2 43 yX2_powerFor, Cond.static yX2_powerFor, Cond.code yX2_powerFor cX2_powerFor 2 (some .int)]
def wsX2_total : List Cond := .code yX2_total cX2_total 3 (some .long) :: ((wsX2_total_r1 ++ wsX2_total_r2) ++ wsX20)
def wsX2_best_r1 : List Cond := [Cond.fieldLink RX2 25 "SelfEndingCodesModel" "thrown" "I", Cond.methodLink RX2 151 yX2_noKind, Cond.static yX2_noKind, Cond.initialized RX2, Cond.code yX2_noKind cX2_noKind 2 (some .boolean), Cond.constant RX2 29 (1000000), Cond.methodLink RX2 170 yX2_totalOf, Cond.instanceMethod yX2_totalOf, Cond.selects RX2 yX2_totalOf yX2_totalOf, Cond.code yX2_totalOf cX2_totalOf 8 (some .long), Cond.fieldLink RX2 167 "SelfEndingCodesModel" "listed" "I", Cond.fieldLink RX2 13 "SelfEndingCodesModel" "list" "[J", Cond.constantLong RX2 30 (4611686018427387904), Cond.methodLink RX2 78 yX2_lengthOf, Cond.instanceMethod yX2_lengthOf, Cond.selects RX2 yX2_lengthOf yX2_lengthOf, Cond.code yX2_lengthOf cX2_lengthOf 11 (some .long), Cond.constantLong RX2 23 (2), Cond.methodLink RX2 32 yX2_bitsOf, Cond.static yX2_bitsOf, Cond.code yX2_bitsOf cX2_bitsOf 5 (some .int), Cond.methodLink RX2 36 yX2_byChain, Cond.static yX2_byChain, Cond.code yX2_byChain cX2_byChain 7 (some .long)]
def wsX2_best_r2 : List Cond := [Cond.methodLink RX2 40 yX2_greatest, Cond.instanceMethod yX2_greatest, Cond.selects RX2 yX2_greatest yX2_greatest, Cond.code yX2_greatest cX2_greatest 4 (some .int), Cond.fieldLink RX2 20 "SelfEndingCodesModel" "sums" "[J", Cond.methodLink RX2 43 yX2_powerFor, Cond.static yX2_powerFor, Cond.code yX2_powerFor cX2_powerFor 2 (some .int)]
def wsX2_best : List Cond := .code yX2_best cX2_best 5 (some .int) :: ((wsX2_best_r1 ++ wsX2_best_r2) ++ wsX20)
def wsX2_putAll_r1 : List Cond := [Cond.fieldLink RX2 25 "SelfEndingCodesModel" "thrown" "I", Cond.fieldLink RX2 167 "SelfEndingCodesModel" "listed" "I", Cond.fieldLink RX2 13 "SelfEndingCodesModel" "list" "[J", Cond.methodLink RX2 151 yX2_noKind, Cond.static yX2_noKind, Cond.initialized RX2, Cond.code yX2_noKind cX2_noKind 2 (some .boolean), Cond.constant RX2 29 (1000000), Cond.methodLink RX2 159 yX2_puts, Cond.instanceMethod yX2_puts, Cond.selects RX2 yX2_puts yX2_puts, Cond.code yX2_puts cX2_puts 6 (some .boolean), Cond.fieldLink RX2 82 "SelfEndingCodesModel" "many" "I", Cond.fieldLink RX2 47 "SelfEndingCodesModel" "made" "I", Cond.fieldLink RX2 7 "SelfEndingCodesModel" "row" "[I", Cond.fieldLink RX2 17 "SelfEndingCodesModel" "word" "[I", Cond.methodLink RX2 78 yX2_lengthOf, Cond.instanceMethod yX2_lengthOf, Cond.selects RX2 yX2_lengthOf yX2_lengthOf, Cond.code yX2_lengthOf cX2_lengthOf 11 (some .long), Cond.constantLong RX2 23 (2), Cond.methodLink RX2 32 yX2_bitsOf, Cond.static yX2_bitsOf, Cond.code yX2_bitsOf cX2_bitsOf 5 (some .int)]
def wsX2_putAll_r2 : List Cond := [Cond.methodLink RX2 36 yX2_byChain, Cond.static yX2_byChain, Cond.code yX2_byChain cX2_byChain 7 (some .long), Cond.methodLink RX2 40 yX2_greatest, Cond.instanceMethod yX2_greatest, Cond.selects RX2 yX2_greatest yX2_greatest, Cond.code yX2_greatest cX2_greatest 4 (some .int), Cond.fieldLink RX2 20 "SelfEndingCodesModel" "sums" "[J", Cond.methodLink RX2 43 yX2_powerFor, Cond.static yX2_powerFor, Cond.code yX2_powerFor cX2_powerFor 2 (some .int), Cond.methodLink RX2 85 yX2_make, Cond.instanceMethod yX2_make, Cond.selects RX2 yX2_make yX2_make, Cond.code yX2_make cX2_make 5 none, Cond.methodLink RX2 58 yX2_ones, Cond.instanceMethod yX2_ones, Cond.selects RX2 yX2_ones yX2_ones, Cond.code yX2_ones cX2_ones 5 none, Cond.methodLink RX2 50 yX2_bit, Cond.instanceMethod yX2_bit, Cond.selects RX2 yX2_bit yX2_bit, Cond.code yX2_bit cX2_bit 2 none, Cond.methodLink RX2 62 yX2_doubled]
def wsX2_putAll_r3 : List Cond := [Cond.instanceMethod yX2_doubled, Cond.selects RX2 yX2_doubled yX2_doubled, Cond.code yX2_doubled cX2_doubled 5 none, Cond.methodLink RX2 54 yX2_low, Cond.instanceMethod yX2_low, Cond.selects RX2 yX2_low yX2_low, Cond.code yX2_low cX2_low 5 none, Cond.methodLink RX2 65 yX2_chain, Cond.instanceMethod yX2_chain, Cond.selects RX2 yX2_chain yX2_chain, Cond.code yX2_chain cX2_chain 9 none, Cond.methodLink RX2 68 yX2_bySums, Cond.instanceMethod yX2_bySums, Cond.selects RX2 yX2_bySums yX2_bySums, Cond.code yX2_bySums cX2_bySums 8 none, Cond.methodLink RX2 71 yX2_byQuotient, Cond.instanceMethod yX2_byQuotient, Cond.selects RX2 yX2_byQuotient yX2_byQuotient, Cond.code yX2_byQuotient cX2_byQuotient 9 none, Cond.methodLink RX2 75 yX2_byGroups, Cond.instanceMethod yX2_byGroups, Cond.selects RX2 yX2_byGroups yX2_byGroups, Cond.code yX2_byGroups cX2_byGroups 9 none]
def wsX2_putAll : List Cond := .code yX2_putAll cX2_putAll 4 (some .int) :: ((wsX2_putAll_r1 ++ (wsX2_putAll_r2 ++ wsX2_putAll_r3)) ++ wsX20)
def wsX2_takeAll_r1 : List Cond := [Cond.fieldLink RX2 25 "SelfEndingCodesModel" "thrown" "I", Cond.fieldLink RX2 167 "SelfEndingCodesModel" "listed" "I", Cond.constantLong RX2 135 (-1), Cond.fieldLink RX2 13 "SelfEndingCodesModel" "list" "[J", Cond.methodLink RX2 151 yX2_noKind, Cond.static yX2_noKind, Cond.initialized RX2, Cond.code yX2_noKind cX2_noKind 2 (some .boolean), Cond.constant RX2 29 (1000000), Cond.methodLink RX2 163 yX2_reads, Cond.instanceMethod yX2_reads, Cond.selects RX2 yX2_reads yX2_reads, Cond.code yX2_reads cX2_reads 9 (some .long), Cond.fieldLink RX2 115 "SelfEndingCodesModel" "at" "I", Cond.fieldLink RX2 89 "SelfEndingCodesModel" "from" "I", Cond.fieldLink RX2 92 "SelfEndingCodesModel" "none" "Z", Cond.constantLong RX2 118 (63), Cond.constantLong RX2 30 (4611686018427387904), Cond.methodLink RX2 100 yX2_run, Cond.instanceMethod yX2_run, Cond.selects RX2 yX2_run yX2_run, Cond.code yX2_run cX2_run 3 (some .int), Cond.fieldLink RX2 82 "SelfEndingCodesModel" "many" "I", Cond.fieldLink RX2 7 "SelfEndingCodesModel" "row" "[I"]
def wsX2_takeAll_r2 : List Cond := [Cond.methodLink RX2 109 yX2_readDoubled, Cond.instanceMethod yX2_readDoubled, Cond.selects RX2 yX2_readDoubled yX2_readDoubled, Cond.code yX2_readDoubled cX2_readDoubled 2 (some .long), Cond.methodLink RX2 103 yX2_some, Cond.instanceMethod yX2_some, Cond.selects RX2 yX2_some yX2_some, Cond.code yX2_some cX2_some 5 (some .long), Cond.constantLong RX2 23 (2), Cond.methodLink RX2 96 yX2_next, Cond.instanceMethod yX2_next, Cond.selects RX2 yX2_next yX2_next, Cond.code yX2_next cX2_next 1 (some .int), Cond.methodLink RX2 120 yX2_readChain, Cond.instanceMethod yX2_readChain, Cond.selects RX2 yX2_readChain yX2_readChain, Cond.code yX2_readChain cX2_readChain 5 (some .long), Cond.constantLong RX2 107 (62), Cond.methodLink RX2 123 yX2_readSums, Cond.instanceMethod yX2_readSums, Cond.selects RX2 yX2_readSums yX2_readSums, Cond.code yX2_readSums cX2_readSums 7 (some .long), Cond.fieldLink RX2 20 "SelfEndingCodesModel" "sums" "[J", Cond.methodLink RX2 126 yX2_readQuotient]
def wsX2_takeAll_r3 : List Cond := [Cond.instanceMethod yX2_readQuotient, Cond.selects RX2 yX2_readQuotient yX2_readQuotient, Cond.code yX2_readQuotient cX2_readQuotient 9 (some .long), Cond.methodLink RX2 43 yX2_powerFor, Cond.static yX2_powerFor, Cond.code yX2_powerFor cX2_powerFor 2 (some .int), Cond.methodLink RX2 129 yX2_readShort, Cond.instanceMethod yX2_readShort, Cond.selects RX2 yX2_readShort yX2_readShort, Cond.code yX2_readShort cX2_readShort 6 (some .long), Cond.constantLong RX2 113 (4611686018427387903), Cond.methodLink RX2 132 yX2_readGroups, Cond.instanceMethod yX2_readGroups, Cond.selects RX2 yX2_readGroups yX2_readGroups, Cond.code yX2_readGroups cX2_readGroups 8 (some .long)]
def wsX2_takeAll : List Cond := .code yX2_takeAll cX2_takeAll 6 (some .int) :: ((wsX2_takeAll_r1 ++ (wsX2_takeAll_r2 ++ wsX2_takeAll_r3)) ++ wsX20)
def wsX2_count_r1 : List Cond := [Cond.fieldLink RX2 25 "SelfEndingCodesModel" "thrown" "I", Cond.methodLink RX2 151 yX2_noKind, Cond.static yX2_noKind, Cond.initialized RX2, Cond.code yX2_noKind cX2_noKind 2 (some .boolean), Cond.constant RX2 29 (1000000), Cond.methodLink RX2 173 yX2_countOf, Cond.instanceMethod yX2_countOf, Cond.selects RX2 yX2_countOf yX2_countOf, Cond.code yX2_countOf cX2_countOf 7 (some .long), Cond.methodLink RX2 147 yX2_edge, Cond.instanceMethod yX2_edge, Cond.selects RX2 yX2_edge yX2_edge, Cond.code yX2_edge cX2_edge 10 (some .long), Cond.fieldLink RX2 20 "SelfEndingCodesModel" "sums" "[J", Cond.constantLong RX2 30 (4611686018427387904), Cond.methodLink RX2 140 yX2_bitsFor, Cond.instanceMethod yX2_bitsFor, Cond.selects RX2 yX2_bitsFor yX2_bitsFor, Cond.code yX2_bitsFor cX2_bitsFor 4 (some .int), Cond.methodLink RX2 137 yX2_firstOf, Cond.static yX2_firstOf, Cond.code yX2_firstOf cX2_firstOf 1 (some .long), Cond.methodLink RX2 78 yX2_lengthOf]
def wsX2_count_r2 : List Cond := [Cond.instanceMethod yX2_lengthOf, Cond.selects RX2 yX2_lengthOf yX2_lengthOf, Cond.code yX2_lengthOf cX2_lengthOf 11 (some .long), Cond.constantLong RX2 23 (2), Cond.methodLink RX2 32 yX2_bitsOf, Cond.static yX2_bitsOf, Cond.code yX2_bitsOf cX2_bitsOf 5 (some .int), Cond.methodLink RX2 36 yX2_byChain, Cond.static yX2_byChain, Cond.code yX2_byChain cX2_byChain 7 (some .long), Cond.methodLink RX2 40 yX2_greatest, Cond.instanceMethod yX2_greatest, Cond.selects RX2 yX2_greatest yX2_greatest, Cond.code yX2_greatest cX2_greatest 4 (some .int), Cond.methodLink RX2 43 yX2_powerFor, Cond.static yX2_powerFor, Cond.code yX2_powerFor cX2_powerFor 2 (some .int), Cond.methodLink RX2 144 yX2_lastOf, Cond.static yX2_lastOf, Cond.code yX2_lastOf cX2_lastOf 1 (some .long)]
def wsX2_count : List Cond := .code yX2_count cX2_count 4 (some .long) :: ((wsX2_count_r1 ++ wsX2_count_r2) ++ wsX20)
def wsX2_first_r1 : List Cond := [Cond.fieldLink RX2 25 "SelfEndingCodesModel" "thrown" "I", Cond.constantLong RX2 135 (-1), Cond.methodLink RX2 151 yX2_noKind, Cond.static yX2_noKind, Cond.initialized RX2, Cond.code yX2_noKind cX2_noKind 2 (some .boolean), Cond.constant RX2 29 (1000000), Cond.methodLink RX2 177 yX2_leastOf, Cond.instanceMethod yX2_leastOf, Cond.selects RX2 yX2_leastOf yX2_leastOf, Cond.code yX2_leastOf cX2_leastOf 7 (some .long), Cond.methodLink RX2 147 yX2_edge, Cond.instanceMethod yX2_edge, Cond.selects RX2 yX2_edge yX2_edge, Cond.code yX2_edge cX2_edge 10 (some .long), Cond.fieldLink RX2 20 "SelfEndingCodesModel" "sums" "[J", Cond.constantLong RX2 30 (4611686018427387904), Cond.methodLink RX2 140 yX2_bitsFor, Cond.instanceMethod yX2_bitsFor, Cond.selects RX2 yX2_bitsFor yX2_bitsFor, Cond.code yX2_bitsFor cX2_bitsFor 4 (some .int), Cond.methodLink RX2 137 yX2_firstOf, Cond.static yX2_firstOf, Cond.code yX2_firstOf cX2_firstOf 1 (some .long)]
def wsX2_first_r2 : List Cond := [Cond.methodLink RX2 78 yX2_lengthOf, Cond.instanceMethod yX2_lengthOf, Cond.selects RX2 yX2_lengthOf yX2_lengthOf, Cond.code yX2_lengthOf cX2_lengthOf 11 (some .long), Cond.constantLong RX2 23 (2), Cond.methodLink RX2 32 yX2_bitsOf, Cond.static yX2_bitsOf, Cond.code yX2_bitsOf cX2_bitsOf 5 (some .int), Cond.methodLink RX2 36 yX2_byChain, Cond.static yX2_byChain, Cond.code yX2_byChain cX2_byChain 7 (some .long), Cond.methodLink RX2 40 yX2_greatest, Cond.instanceMethod yX2_greatest, Cond.selects RX2 yX2_greatest yX2_greatest, Cond.code yX2_greatest cX2_greatest 4 (some .int), Cond.methodLink RX2 43 yX2_powerFor, Cond.static yX2_powerFor, Cond.code yX2_powerFor cX2_powerFor 2 (some .int), Cond.methodLink RX2 144 yX2_lastOf, Cond.static yX2_lastOf, Cond.code yX2_lastOf cX2_lastOf 1 (some .long)]
def wsX2_first : List Cond := .code yX2_first cX2_first 6 (some .long) :: ((wsX2_first_r1 ++ wsX2_first_r2) ++ wsX20)
def wsX2_begun_r1 : List Cond := [Cond.fieldLink RX2 25 "SelfEndingCodesModel" "thrown" "I", Cond.methodLink RX2 151 yX2_noKind, Cond.static yX2_noKind, Cond.initialized RX2, Cond.code yX2_noKind cX2_noKind 2 (some .boolean), Cond.constant RX2 29 (1000000), Cond.methodLink RX2 173 yX2_countOf, Cond.instanceMethod yX2_countOf, Cond.selects RX2 yX2_countOf yX2_countOf, Cond.code yX2_countOf cX2_countOf 7 (some .long), Cond.methodLink RX2 147 yX2_edge, Cond.instanceMethod yX2_edge, Cond.selects RX2 yX2_edge yX2_edge, Cond.code yX2_edge cX2_edge 10 (some .long), Cond.fieldLink RX2 20 "SelfEndingCodesModel" "sums" "[J", Cond.constantLong RX2 30 (4611686018427387904), Cond.methodLink RX2 140 yX2_bitsFor, Cond.instanceMethod yX2_bitsFor, Cond.selects RX2 yX2_bitsFor yX2_bitsFor, Cond.code yX2_bitsFor cX2_bitsFor 4 (some .int), Cond.methodLink RX2 137 yX2_firstOf, Cond.static yX2_firstOf, Cond.code yX2_firstOf cX2_firstOf 1 (some .long), Cond.methodLink RX2 78 yX2_lengthOf]
def wsX2_begun_r2 : List Cond := [Cond.instanceMethod yX2_lengthOf, Cond.selects RX2 yX2_lengthOf yX2_lengthOf, Cond.code yX2_lengthOf cX2_lengthOf 11 (some .long), Cond.constantLong RX2 23 (2), Cond.methodLink RX2 32 yX2_bitsOf, Cond.static yX2_bitsOf, Cond.code yX2_bitsOf cX2_bitsOf 5 (some .int), Cond.methodLink RX2 36 yX2_byChain, Cond.static yX2_byChain, Cond.code yX2_byChain cX2_byChain 7 (some .long), Cond.methodLink RX2 40 yX2_greatest, Cond.instanceMethod yX2_greatest, Cond.selects RX2 yX2_greatest yX2_greatest, Cond.code yX2_greatest cX2_greatest 4 (some .int), Cond.methodLink RX2 43 yX2_powerFor, Cond.static yX2_powerFor, Cond.code yX2_powerFor cX2_powerFor 2 (some .int), Cond.methodLink RX2 144 yX2_lastOf, Cond.static yX2_lastOf, Cond.code yX2_lastOf cX2_lastOf 1 (some .long)]
def wsX2_begun : List Cond := .code yX2_begun cX2_begun 7 (some .long) :: ((wsX2_begun_r1 ++ wsX2_begun_r2) ++ wsX20)
def wsX2_fold : List Cond := .code yX2_fold cX2_fold 3 (some .long) :: ([.constantLong RX2 180 (2305843009213693952), .constantLong RX2 182 (-2305843009213693952), .fieldLink RX2 25 "SelfEndingCodesModel" "thrown" "I", .constantLong RX2 23 (2)] ++ wsX20)
def wsX2_unfold : List Cond := .code yX2_unfold cX2_unfold 3 (some .long) :: ([.fieldLink RX2 25 "SelfEndingCodesModel" "thrown" "I", .constantLong RX2 23 (2), .methodLink RX2 155 yX2_noNumber, .static yX2_noNumber, .initialized RX2, .code yX2_noNumber cX2_noNumber 2 (some .boolean), .constantLong RX2 30 (4611686018427387904)] ++ wsX20)
def wsJ9_max_7cf53 : List Cond := .code yJ9_max_7cf53 cJ9_max_7cf53 2 (some .int) :: ([])
def wsL_length_r1 : List Cond := [Cond.classLink RL 13 "java/lang/IllegalArgumentException", Cond.methodLink RL 7 yX1_length, Cond.instanceMethod yX1_length, Cond.selects RX1 yX1_length yX1_length, Cond.initialized RX1, Cond.code yX1_length cX1_length 5 (some .long), Cond.methodLink RX1 29 yX1_requireCode, Cond.static yX1_requireCode, Cond.code yX1_requireCode cX1_requireCode 2 none, Cond.classLink RX1 52 "java/lang/IllegalArgumentException", Cond.initialized "java/lang/IllegalArgumentException", Cond.methodLink RX1 87 yX1_isCode, Cond.static yX1_isCode, Cond.code yX1_isCode cX1_isCode 2 (some .boolean), Cond.methodLink RX1 93 yX1_leastParameter, Cond.static yX1_leastParameter, Cond.code yX1_leastParameter cX1_leastParameter 1 (some .int), Cond.methodLink RX1 115 yX1_greatestParameter, Cond.static yX1_greatestParameter, Cond.code yX1_greatestParameter cX1_greatestParameter 1 (some .int), Cond.constant RX1 114 (1000000), Cond.methodLink RX1 33 yX1_requireNumber, Cond.static yX1_requireNumber, Cond.code yX1_requireNumber cX1_requireNumber 2 none]
def wsL_length_r2 : List Cond := [Cond.constantLong RX1 106 (4611686018427387904), Cond.methodLink RX1 37 yX1_codewordLength, Cond.instanceMethod yX1_codewordLength, Cond.selects RX1 yX1_codewordLength yX1_codewordLength, Cond.code yX1_codewordLength cX1_codewordLength 5 (some .long), Cond.methodLink RX1 124 yX1_gammaLength, Cond.static yX1_gammaLength, Cond.code yX1_gammaLength cX1_gammaLength 2 (some .int), Cond.methodLink RX1 127 yX1_bitLength, Cond.static yX1_bitLength, Cond.code yX1_bitLength cX1_bitLength 2 (some .int), Cond.methodLink RX1 144 yJ13_numberOfLeadingZeros_95d88, Cond.static yJ13_numberOfLeadingZeros_95d88, Cond.initialized RJ13, Cond.code yJ13_numberOfLeadingZeros_95d88 cJ13_numberOfLeadingZeros_95d88 3 (some .int), Cond.methodLink RJ13 308 yJ6_numberOfLeadingZeros_0f7a4, Cond.static yJ6_numberOfLeadingZeros_0f7a4, Cond.initialized RJ6, Cond.code yJ6_numberOfLeadingZeros_0f7a4 cJ6_numberOfLeadingZeros_0f7a4 2 (some .int), Cond.constant RJ6 264 (65536), Cond.methodLink RX1 130 yX1_omegaLength, Cond.static yX1_omegaLength, Cond.code yX1_omegaLength cX1_omegaLength 7 (some .int), Cond.methodLink RX1 133 yX1_fibonacciLength]
def wsL_length_r3 : List Cond := [Cond.instanceMethod yX1_fibonacciLength, Cond.selects RX1 yX1_fibonacciLength yX1_fibonacciLength, Cond.code yX1_fibonacciLength cX1_fibonacciLength 7 (some .int), Cond.fieldLink RX1 24 "SelfEndingCodes" "fibonacci" "[J", Cond.methodLink RX1 136 yX1_golombLength, Cond.static yX1_golombLength, Cond.code yX1_golombLength cX1_golombLength 8 (some .long), Cond.methodLink RX1 149 yX1_golombWidth, Cond.static yX1_golombWidth, Cond.code yX1_golombWidth cX1_golombWidth 1 (some .int), Cond.methodLink RX1 152 yX1_golombShortRests, Cond.static yX1_golombShortRests, Cond.code yX1_golombShortRests cX1_golombShortRests 2 (some .long), Cond.methodLink RX1 140 yX1_groupsOf, Cond.static yX1_groupsOf, Cond.code yX1_groupsOf cX1_groupsOf 3 (some .int), Cond.methodLink RX1 155 Lib.Math.max.name, Cond.static Lib.Math.max.name, Cond.initialized "java/lang/Math", Cond.code Lib.Math.max.name Lib.Math.max.code 2 (some .int)]
def wsL_length : List Cond := .codeWith yL_length cL_length 7 (some .int) [(0, 11, 14, 13)] :: ((wsL_length_r1 ++ (wsL_length_r2 ++ wsL_length_r3)) ++ wsX10 ++ (vx_atS RX1 56 "java/lang/IllegalArgumentException" ["java/lang/RuntimeException", "java/lang/Exception"]).filter goodWord)
def wsL_put_r1 : List Cond := [Cond.classLink RL 13 "java/lang/IllegalArgumentException", Cond.methodLink RL 15 yX1_put, Cond.instanceMethod yX1_put, Cond.selects RX1 yX1_put yX1_put, Cond.initialized RX1, Cond.code yX1_put cX1_put 5 (some .int), Cond.fieldLink RX1 12 "SelfEndingCodes" "row" "LSelfEndingCodes$BitRow;", Cond.methodLink RX1 29 yX1_requireCode, Cond.static yX1_requireCode, Cond.code yX1_requireCode cX1_requireCode 2 none, Cond.classLink RX1 52 "java/lang/IllegalArgumentException", Cond.initialized "java/lang/IllegalArgumentException", Cond.methodLink RX1 87 yX1_isCode, Cond.static yX1_isCode, Cond.code yX1_isCode cX1_isCode 2 (some .boolean), Cond.methodLink RX1 93 yX1_leastParameter, Cond.static yX1_leastParameter, Cond.code yX1_leastParameter cX1_leastParameter 1 (some .int), Cond.methodLink RX1 115 yX1_greatestParameter, Cond.static yX1_greatestParameter, Cond.code yX1_greatestParameter cX1_greatestParameter 1 (some .int), Cond.constant RX1 114 (1000000), Cond.methodLink RX1 33 yX1_requireNumber, Cond.static yX1_requireNumber]
def wsL_put_r2 : List Cond := [Cond.code yX1_requireNumber cX1_requireNumber 2 none, Cond.constantLong RX1 106 (4611686018427387904), Cond.methodLink RX1 41 yX1_appendIfRoom, Cond.instanceMethod yX1_appendIfRoom, Cond.selects RX1 yX1_appendIfRoom yX1_appendIfRoom, Cond.code yX1_appendIfRoom cX1_appendIfRoom 5 (some .boolean), Cond.methodLink RX1 37 yX1_codewordLength, Cond.instanceMethod yX1_codewordLength, Cond.selects RX1 yX1_codewordLength yX1_codewordLength, Cond.code yX1_codewordLength cX1_codewordLength 5 (some .long), Cond.methodLink RX1 124 yX1_gammaLength, Cond.static yX1_gammaLength, Cond.code yX1_gammaLength cX1_gammaLength 2 (some .int), Cond.methodLink RX1 127 yX1_bitLength, Cond.static yX1_bitLength, Cond.code yX1_bitLength cX1_bitLength 2 (some .int), Cond.methodLink RX1 144 yJ13_numberOfLeadingZeros_95d88, Cond.static yJ13_numberOfLeadingZeros_95d88, Cond.initialized RJ13, Cond.code yJ13_numberOfLeadingZeros_95d88 cJ13_numberOfLeadingZeros_95d88 3 (some .int), Cond.methodLink RJ13 308 yJ6_numberOfLeadingZeros_0f7a4, Cond.static yJ6_numberOfLeadingZeros_0f7a4, Cond.initialized RJ6, Cond.code yJ6_numberOfLeadingZeros_0f7a4 cJ6_numberOfLeadingZeros_0f7a4 2 (some .int)]
def wsL_put_r3 : List Cond := [Cond.constant RJ6 264 (65536), Cond.methodLink RX1 130 yX1_omegaLength, Cond.static yX1_omegaLength, Cond.code yX1_omegaLength cX1_omegaLength 7 (some .int), Cond.methodLink RX1 133 yX1_fibonacciLength, Cond.instanceMethod yX1_fibonacciLength, Cond.selects RX1 yX1_fibonacciLength yX1_fibonacciLength, Cond.code yX1_fibonacciLength cX1_fibonacciLength 7 (some .int), Cond.fieldLink RX1 24 "SelfEndingCodes" "fibonacci" "[J", Cond.methodLink RX1 136 yX1_golombLength, Cond.static yX1_golombLength, Cond.code yX1_golombLength cX1_golombLength 8 (some .long), Cond.methodLink RX1 149 yX1_golombWidth, Cond.static yX1_golombWidth, Cond.code yX1_golombWidth cX1_golombWidth 1 (some .int), Cond.methodLink RX1 152 yX1_golombShortRests, Cond.static yX1_golombShortRests, Cond.code yX1_golombShortRests cX1_golombShortRests 2 (some .long), Cond.methodLink RX1 140 yX1_groupsOf, Cond.static yX1_groupsOf, Cond.code yX1_groupsOf cX1_groupsOf 3 (some .int), Cond.methodLink RX1 155 Lib.Math.max.name, Cond.static Lib.Math.max.name, Cond.initialized "java/lang/Math"]
def wsL_put_r4 : List Cond := [Cond.code Lib.Math.max.name Lib.Math.max.code 2 (some .int), Cond.methodLink RX1 59 yX0_room, Cond.instanceMethod yX0_room, Cond.selects RX0 yX0_room yX0_room, Cond.initialized RX0, Cond.code yX0_room cX0_room 1 (some .int), Cond.fieldLink RX0 15 "SelfEndingCodes$BitRow" "end" "I", Cond.methodLink RX1 163 yX1_appendCodeword, Cond.instanceMethod yX1_appendCodeword, Cond.selects RX1 yX1_appendCodeword yX1_appendCodeword, Cond.code yX1_appendCodeword cX1_appendCodeword 5 none, Cond.methodLink RX1 167 yX0_appendOnesAndZero, Cond.instanceMethod yX0_appendOnesAndZero, Cond.selects RX0 yX0_appendOnesAndZero yX0_appendOnesAndZero, Cond.code yX0_appendOnesAndZero cX0_appendOnesAndZero 4 none, Cond.methodLink RX0 35 yX0_setOne, Cond.instanceMethod yX0_setOne, Cond.selects RX0 yX0_setOne yX0_setOne, Cond.code yX0_setOne cX0_setOne 2 none, Cond.fieldLink RX0 9 "SelfEndingCodes$BitRow" "words" "[J", Cond.methodLink RX1 170 yX1_appendGamma, Cond.instanceMethod yX1_appendGamma, Cond.selects RX1 yX1_appendGamma yX1_appendGamma, Cond.code yX1_appendGamma cX1_appendGamma 3 none]
def wsL_put_r5 : List Cond := [Cond.methodLink RX1 63 yX0_appendBits, Cond.instanceMethod yX0_appendBits, Cond.selects RX0 yX0_appendBits yX0_appendBits, Cond.code yX0_appendBits cX0_appendBits 4 none, Cond.methodLink RX0 39 yX0_writeBits, Cond.instanceMethod yX0_writeBits, Cond.selects RX0 yX0_writeBits yX0_writeBits, Cond.code yX0_writeBits cX0_writeBits 6 none, Cond.methodLink RX1 173 yX1_appendOmega, Cond.instanceMethod yX1_appendOmega, Cond.selects RX1 yX1_appendOmega yX1_appendOmega, Cond.code yX1_appendOmega cX1_appendOmega 9 none, Cond.methodLink RX1 186 yX0_writeBits, Cond.methodLink RX1 176 yX1_appendFibonacci, Cond.instanceMethod yX1_appendFibonacci, Cond.selects RX1 yX1_appendFibonacci yX1_appendFibonacci, Cond.code yX1_appendFibonacci cX1_appendFibonacci 7 none, Cond.methodLink RX1 179 yX1_appendGolomb, Cond.instanceMethod yX1_appendGolomb, Cond.selects RX1 yX1_appendGolomb yX1_appendGolomb, Cond.code yX1_appendGolomb cX1_appendGolomb 9 none, Cond.methodLink RX1 183 yX1_appendGroups, Cond.instanceMethod yX1_appendGroups, Cond.selects RX1 yX1_appendGroups yX1_appendGroups]
def wsL_put_r6 : List Cond := [Cond.code yX1_appendGroups cX1_appendGroups 8 none]
def wsL_put : List Cond := .codeWith yL_put cL_put 7 (some .int) [(0, 12, 15, 13)] :: ((wsL_put_r1 ++ (wsL_put_r2 ++ (wsL_put_r3 ++ (wsL_put_r4 ++ (wsL_put_r5 ++ wsL_put_r6))))) ++ wsX10 ++ wsX00 ++ (vx_atS RX1 56 "java/lang/IllegalArgumentException" ["java/lang/RuntimeException", "java/lang/Exception"]).filter goodWord)
def wsL_take_r1 : List Cond := [Cond.classLink RL 13 "java/lang/IllegalArgumentException", Cond.methodLink RL 19 yX1_take, Cond.instanceMethod yX1_take, Cond.selects RX1 yX1_take yX1_take, Cond.initialized RX1, Cond.code yX1_take cX1_take 3 (some .long), Cond.methodLink RX1 29 yX1_requireCode, Cond.static yX1_requireCode, Cond.code yX1_requireCode cX1_requireCode 2 none, Cond.classLink RX1 52 "java/lang/IllegalArgumentException", Cond.initialized "java/lang/IllegalArgumentException", Cond.methodLink RX1 87 yX1_isCode, Cond.static yX1_isCode, Cond.code yX1_isCode cX1_isCode 2 (some .boolean), Cond.methodLink RX1 93 yX1_leastParameter, Cond.static yX1_leastParameter, Cond.code yX1_leastParameter cX1_leastParameter 1 (some .int), Cond.methodLink RX1 115 yX1_greatestParameter, Cond.static yX1_greatestParameter, Cond.code yX1_greatestParameter cX1_greatestParameter 1 (some .int), Cond.constant RX1 114 (1000000), Cond.methodLink RX1 48 yX1_readNext, Cond.instanceMethod yX1_readNext, Cond.selects RX1 yX1_readNext yX1_readNext]
def wsL_take_r2 : List Cond := [Cond.code yX1_readNext cX1_readNext 5 (some .long), Cond.fieldLink RX1 12 "SelfEndingCodes" "row" "LSelfEndingCodes$BitRow;", Cond.constantLong RX1 97 (-1), Cond.methodLink RX1 193 yX1_readCodeword, Cond.instanceMethod yX1_readCodeword, Cond.selects RX1 yX1_readCodeword yX1_readCodeword, Cond.code yX1_readCodeword cX1_readCodeword 3 (some .long), Cond.methodLink RX1 196 yX0_readOnesAndZero, Cond.instanceMethod yX0_readOnesAndZero, Cond.selects RX0 yX0_readOnesAndZero yX0_readOnesAndZero, Cond.initialized RX0, Cond.code yX0_readOnesAndZero cX0_readOnesAndZero 2 (some .int), Cond.methodLink RX0 49 yX0_readBit, Cond.instanceMethod yX0_readBit, Cond.selects RX0 yX0_readBit yX0_readBit, Cond.code yX0_readBit cX0_readBit 2 (some .int), Cond.fieldLink RX0 22 "SelfEndingCodes$BitRow" "cursor" "I", Cond.methodLink RX0 43 yX0_bitAt, Cond.instanceMethod yX0_bitAt, Cond.selects RX0 yX0_bitAt yX0_bitAt, Cond.code yX0_bitAt cX0_bitAt 3 (some .int), Cond.fieldLink RX0 15 "SelfEndingCodes$BitRow" "end" "I", Cond.fieldLink RX0 9 "SelfEndingCodes$BitRow" "words" "[J", Cond.constantLong RX0 31 (64)]
def wsL_take_r3 : List Cond := [Cond.constantLong RX0 33 (63), Cond.methodLink RX1 199 yX1_readGamma, Cond.instanceMethod yX1_readGamma, Cond.selects RX1 yX1_readGamma yX1_readGamma, Cond.code yX1_readGamma cX1_readGamma 2 (some .long), Cond.methodLink RX1 222 yX0_readBit, Cond.methodLink RX1 225 yX0_readBits, Cond.instanceMethod yX0_readBits, Cond.selects RX0 yX0_readBits yX0_readBits, Cond.code yX0_readBits cX0_readBits 7 (some .long), Cond.constantLong RX0 47 (2), Cond.methodLink RX1 229 yX1_numberOrNone, Cond.static yX1_numberOrNone, Cond.code yX1_numberOrNone cX1_numberOrNone 2 (some .long), Cond.constantLong RX1 106 (4611686018427387904), Cond.methodLink RX1 203 yX1_readDelta, Cond.instanceMethod yX1_readDelta, Cond.selects RX1 yX1_readDelta yX1_readDelta, Cond.code yX1_readDelta cX1_readDelta 3 (some .long), Cond.constantLong RX1 233 (63), Cond.methodLink RX1 206 yX1_readOmega, Cond.instanceMethod yX1_readOmega, Cond.selects RX1 yX1_readOmega yX1_readOmega, Cond.code yX1_readOmega cX1_readOmega 4 (some .long)]
def wsL_take_r4 : List Cond := [Cond.methodLink RX1 209 yX1_readFibonacci, Cond.instanceMethod yX1_readFibonacci, Cond.selects RX1 yX1_readFibonacci yX1_readFibonacci, Cond.code yX1_readFibonacci cX1_readFibonacci 6 (some .long), Cond.fieldLink RX1 24 "SelfEndingCodes" "fibonacci" "[J", Cond.methodLink RX1 212 yX1_readGolomb, Cond.instanceMethod yX1_readGolomb, Cond.selects RX1 yX1_readGolomb yX1_readGolomb, Cond.code yX1_readGolomb cX1_readGolomb 9 (some .long), Cond.constantLong RX1 27 (2), Cond.methodLink RX1 149 yX1_golombWidth, Cond.static yX1_golombWidth, Cond.code yX1_golombWidth cX1_golombWidth 1 (some .int), Cond.methodLink RX1 127 yX1_bitLength, Cond.static yX1_bitLength, Cond.code yX1_bitLength cX1_bitLength 2 (some .int), Cond.methodLink RX1 144 yJ13_numberOfLeadingZeros_95d88, Cond.static yJ13_numberOfLeadingZeros_95d88, Cond.initialized RJ13, Cond.code yJ13_numberOfLeadingZeros_95d88 cJ13_numberOfLeadingZeros_95d88 3 (some .int), Cond.methodLink RJ13 308 yJ6_numberOfLeadingZeros_0f7a4, Cond.static yJ6_numberOfLeadingZeros_0f7a4, Cond.initialized RJ6, Cond.code yJ6_numberOfLeadingZeros_0f7a4 cJ6_numberOfLeadingZeros_0f7a4 2 (some .int)]
def wsL_take_r5 : List Cond := [Cond.constant RJ6 264 (65536), Cond.methodLink RX1 152 yX1_golombShortRests, Cond.static yX1_golombShortRests, Cond.code yX1_golombShortRests cX1_golombShortRests 2 (some .long), Cond.methodLink RX1 216 yX1_readExpGolomb, Cond.instanceMethod yX1_readExpGolomb, Cond.selects RX1 yX1_readExpGolomb yX1_readExpGolomb, Cond.code yX1_readExpGolomb cX1_readExpGolomb 4 (some .long), Cond.methodLink RX1 219 yX1_readGroups, Cond.instanceMethod yX1_readGroups, Cond.selects RX1 yX1_readGroups yX1_readGroups, Cond.code yX1_readGroups cX1_readGroups 9 (some .long)]
def wsL_take : List Cond := .codeWith yL_take cL_take 5 (some .int) [(0, 9, 12, 13)] :: ((wsL_take_r1 ++ (wsL_take_r2 ++ (wsL_take_r3 ++ (wsL_take_r4 ++ wsL_take_r5)))) ++ wsX10 ++ wsX00 ++ (vx_atS RX1 56 "java/lang/IllegalArgumentException" ["java/lang/RuntimeException", "java/lang/Exception"]).filter goodWord)
def wsL_push_r1 : List Cond := [Cond.classLink RL 13 "java/lang/IllegalArgumentException", Cond.methodLink RL 23 yX1_push, Cond.instanceMethod yX1_push, Cond.selects RX1 yX1_push yX1_push, Cond.initialized RX1, Cond.code yX1_push cX1_push 4 (some .int), Cond.classLink RX1 52 "java/lang/IllegalArgumentException", Cond.initialized "java/lang/IllegalArgumentException", Cond.fieldLink RX1 12 "SelfEndingCodes" "row" "LSelfEndingCodes$BitRow;", Cond.methodLink RX1 59 yX0_room, Cond.instanceMethod yX0_room, Cond.selects RX0 yX0_room yX0_room, Cond.initialized RX0, Cond.code yX0_room cX0_room 1 (some .int), Cond.fieldLink RX0 15 "SelfEndingCodes$BitRow" "end" "I", Cond.methodLink RX1 63 yX0_appendBits, Cond.instanceMethod yX0_appendBits, Cond.selects RX0 yX0_appendBits yX0_appendBits, Cond.code yX0_appendBits cX0_appendBits 4 none, Cond.methodLink RX0 39 yX0_writeBits, Cond.instanceMethod yX0_writeBits, Cond.selects RX0 yX0_writeBits yX0_writeBits, Cond.code yX0_writeBits cX0_writeBits 6 none, Cond.methodLink RX0 35 yX0_setOne]
def wsL_push_r2 : List Cond := [Cond.instanceMethod yX0_setOne, Cond.selects RX0 yX0_setOne yX0_setOne, Cond.code yX0_setOne cX0_setOne 2 none, Cond.fieldLink RX0 9 "SelfEndingCodes$BitRow" "words" "[J"]
def wsL_push : List Cond := .codeWith yL_push cL_push 6 (some .int) [(0, 11, 14, 13)] :: ((wsL_push_r1 ++ wsL_push_r2) ++ wsX10 ++ wsX00 ++ (vx_atS RX1 56 "java/lang/IllegalArgumentException" ["java/lang/RuntimeException", "java/lang/Exception"]).filter goodWord)
def wsL_seek : List Cond := .codeWith yL_seek cL_seek 3 (some .int) [(0, 5, 8, 31)] :: ([.classLink RL 31 "java/lang/IndexOutOfBoundsException", .methodLink RL 27 yX1_seek, .instanceMethod yX1_seek, .selects RX1 yX1_seek yX1_seek, .initialized RX1, .code yX1_seek cX1_seek 2 none, .classLink RX1 74 "java/lang/IndexOutOfBoundsException", .initialized "java/lang/IndexOutOfBoundsException", .fieldLink RX1 12 "SelfEndingCodes" "row" "LSelfEndingCodes$BitRow;"] ++ wsX10 ++ wsX00 ++ (vx_atS RX1 78 "java/lang/IndexOutOfBoundsException" ["java/lang/RuntimeException", "java/lang/Exception"]).filter goodWord)
def wsL_add : List Cond := .codeWith yL_add cL_add 5 (some .int) [(0, 9, 12, 13)] :: ([.classLink RL 13 "java/lang/IllegalArgumentException", .methodLink RL 33 yX1_add, .instanceMethod yX1_add, .selects RX1 yX1_add yX1_add, .initialized RX1, .code yX1_add cX1_add 3 (some .int), .fieldLink RX1 20 "SelfEndingCodes" "listed" "I", .fieldLink RX1 16 "SelfEndingCodes" "list" "[J", .methodLink RX1 33 yX1_requireNumber, .static yX1_requireNumber, .code yX1_requireNumber cX1_requireNumber 2 none, .classLink RX1 52 "java/lang/IllegalArgumentException", .initialized "java/lang/IllegalArgumentException", .constantLong RX1 106 (4611686018427387904)] ++ wsX10 ++ (vx_atS RX1 56 "java/lang/IllegalArgumentException" ["java/lang/RuntimeException", "java/lang/Exception"]).filter goodWord)
def wsL_get : List Cond := .codeWith yL_get cL_get 4 (some .int) [(0, 8, 11, 31)] :: ([.classLink RL 31 "java/lang/IndexOutOfBoundsException", .methodLink RL 37 yX1_get, .instanceMethod yX1_get, .selects RX1 yX1_get yX1_get, .initialized RX1, .code yX1_get cX1_get 2 (some .long), .classLink RX1 74 "java/lang/IndexOutOfBoundsException", .initialized "java/lang/IndexOutOfBoundsException", .fieldLink RX1 20 "SelfEndingCodes" "listed" "I", .fieldLink RX1 16 "SelfEndingCodes" "list" "[J"] ++ wsX10 ++ (vx_atS RX1 78 "java/lang/IndexOutOfBoundsException" ["java/lang/RuntimeException", "java/lang/Exception"]).filter goodWord)
def wsL_total_r1 : List Cond := [Cond.classLink RL 13 "java/lang/IllegalArgumentException", Cond.methodLink RL 41 yX1_total, Cond.instanceMethod yX1_total, Cond.selects RX1 yX1_total yX1_total, Cond.initialized RX1, Cond.code yX1_total cX1_total 3 (some .long), Cond.methodLink RX1 29 yX1_requireCode, Cond.static yX1_requireCode, Cond.code yX1_requireCode cX1_requireCode 2 none, Cond.classLink RX1 52 "java/lang/IllegalArgumentException", Cond.initialized "java/lang/IllegalArgumentException", Cond.methodLink RX1 87 yX1_isCode, Cond.static yX1_isCode, Cond.code yX1_isCode cX1_isCode 2 (some .boolean), Cond.methodLink RX1 93 yX1_leastParameter, Cond.static yX1_leastParameter, Cond.code yX1_leastParameter cX1_leastParameter 1 (some .int), Cond.methodLink RX1 115 yX1_greatestParameter, Cond.static yX1_greatestParameter, Cond.code yX1_greatestParameter cX1_greatestParameter 1 (some .int), Cond.constant RX1 114 (1000000), Cond.methodLink RX1 84 yX1_listLength, Cond.instanceMethod yX1_listLength, Cond.selects RX1 yX1_listLength yX1_listLength]
def wsL_total_r2 : List Cond := [Cond.code yX1_listLength cX1_listLength 8 (some .long), Cond.fieldLink RX1 20 "SelfEndingCodes" "listed" "I", Cond.fieldLink RX1 16 "SelfEndingCodes" "list" "[J", Cond.constantLong RX1 106 (4611686018427387904), Cond.methodLink RX1 37 yX1_codewordLength, Cond.instanceMethod yX1_codewordLength, Cond.selects RX1 yX1_codewordLength yX1_codewordLength, Cond.code yX1_codewordLength cX1_codewordLength 5 (some .long), Cond.methodLink RX1 124 yX1_gammaLength, Cond.static yX1_gammaLength, Cond.code yX1_gammaLength cX1_gammaLength 2 (some .int), Cond.methodLink RX1 127 yX1_bitLength, Cond.static yX1_bitLength, Cond.code yX1_bitLength cX1_bitLength 2 (some .int), Cond.methodLink RX1 144 yJ13_numberOfLeadingZeros_95d88, Cond.static yJ13_numberOfLeadingZeros_95d88, Cond.initialized RJ13, Cond.code yJ13_numberOfLeadingZeros_95d88 cJ13_numberOfLeadingZeros_95d88 3 (some .int), Cond.methodLink RJ13 308 yJ6_numberOfLeadingZeros_0f7a4, Cond.static yJ6_numberOfLeadingZeros_0f7a4, Cond.initialized RJ6, Cond.code yJ6_numberOfLeadingZeros_0f7a4 cJ6_numberOfLeadingZeros_0f7a4 2 (some .int), Cond.constant RJ6 264 (65536), Cond.methodLink RX1 130 yX1_omegaLength]
def wsL_total_r3 : List Cond := [Cond.static yX1_omegaLength, Cond.code yX1_omegaLength cX1_omegaLength 7 (some .int), Cond.methodLink RX1 133 yX1_fibonacciLength, Cond.instanceMethod yX1_fibonacciLength, Cond.selects RX1 yX1_fibonacciLength yX1_fibonacciLength, Cond.code yX1_fibonacciLength cX1_fibonacciLength 7 (some .int), Cond.fieldLink RX1 24 "SelfEndingCodes" "fibonacci" "[J", Cond.methodLink RX1 136 yX1_golombLength, Cond.static yX1_golombLength, Cond.code yX1_golombLength cX1_golombLength 8 (some .long), Cond.methodLink RX1 149 yX1_golombWidth, Cond.static yX1_golombWidth, Cond.code yX1_golombWidth cX1_golombWidth 1 (some .int), Cond.methodLink RX1 152 yX1_golombShortRests, Cond.static yX1_golombShortRests, Cond.code yX1_golombShortRests cX1_golombShortRests 2 (some .long), Cond.methodLink RX1 140 yX1_groupsOf, Cond.static yX1_groupsOf, Cond.code yX1_groupsOf cX1_groupsOf 3 (some .int), Cond.methodLink RX1 155 Lib.Math.max.name, Cond.static Lib.Math.max.name, Cond.initialized "java/lang/Math", Cond.code Lib.Math.max.name Lib.Math.max.code 2 (some .int)]
def wsL_total : List Cond := .codeWith yL_total cL_total 5 (some .int) [(0, 9, 12, 13)] :: ((wsL_total_r1 ++ (wsL_total_r2 ++ wsL_total_r3)) ++ wsX10 ++ (vx_atS RX1 56 "java/lang/IllegalArgumentException" ["java/lang/RuntimeException", "java/lang/Exception"]).filter goodWord)
def wsL_best_r1 : List Cond := [Cond.classLink RL 13 "java/lang/IllegalArgumentException", Cond.methodLink RL 44 yX1_best, Cond.instanceMethod yX1_best, Cond.selects RX1 yX1_best yX1_best, Cond.initialized RX1, Cond.code yX1_best cX1_best 9 (some .int), Cond.classLink RX1 52 "java/lang/IllegalArgumentException", Cond.initialized "java/lang/IllegalArgumentException", Cond.methodLink RX1 87 yX1_isCode, Cond.static yX1_isCode, Cond.code yX1_isCode cX1_isCode 2 (some .boolean), Cond.methodLink RX1 93 yX1_leastParameter, Cond.static yX1_leastParameter, Cond.code yX1_leastParameter cX1_leastParameter 1 (some .int), Cond.methodLink RX1 115 yX1_greatestParameter, Cond.static yX1_greatestParameter, Cond.code yX1_greatestParameter cX1_greatestParameter 1 (some .int), Cond.constant RX1 114 (1000000), Cond.methodLink RX1 84 yX1_listLength, Cond.instanceMethod yX1_listLength, Cond.selects RX1 yX1_listLength yX1_listLength, Cond.code yX1_listLength cX1_listLength 8 (some .long), Cond.fieldLink RX1 20 "SelfEndingCodes" "listed" "I", Cond.fieldLink RX1 16 "SelfEndingCodes" "list" "[J"]
def wsL_best_r2 : List Cond := [Cond.constantLong RX1 106 (4611686018427387904), Cond.methodLink RX1 37 yX1_codewordLength, Cond.instanceMethod yX1_codewordLength, Cond.selects RX1 yX1_codewordLength yX1_codewordLength, Cond.code yX1_codewordLength cX1_codewordLength 5 (some .long), Cond.methodLink RX1 124 yX1_gammaLength, Cond.static yX1_gammaLength, Cond.code yX1_gammaLength cX1_gammaLength 2 (some .int), Cond.methodLink RX1 127 yX1_bitLength, Cond.static yX1_bitLength, Cond.code yX1_bitLength cX1_bitLength 2 (some .int), Cond.methodLink RX1 144 yJ13_numberOfLeadingZeros_95d88, Cond.static yJ13_numberOfLeadingZeros_95d88, Cond.initialized RJ13, Cond.code yJ13_numberOfLeadingZeros_95d88 cJ13_numberOfLeadingZeros_95d88 3 (some .int), Cond.methodLink RJ13 308 yJ6_numberOfLeadingZeros_0f7a4, Cond.static yJ6_numberOfLeadingZeros_0f7a4, Cond.initialized RJ6, Cond.code yJ6_numberOfLeadingZeros_0f7a4 cJ6_numberOfLeadingZeros_0f7a4 2 (some .int), Cond.constant RJ6 264 (65536), Cond.methodLink RX1 130 yX1_omegaLength, Cond.static yX1_omegaLength, Cond.code yX1_omegaLength cX1_omegaLength 7 (some .int), Cond.methodLink RX1 133 yX1_fibonacciLength]
def wsL_best_r3 : List Cond := [Cond.instanceMethod yX1_fibonacciLength, Cond.selects RX1 yX1_fibonacciLength yX1_fibonacciLength, Cond.code yX1_fibonacciLength cX1_fibonacciLength 7 (some .int), Cond.fieldLink RX1 24 "SelfEndingCodes" "fibonacci" "[J", Cond.methodLink RX1 136 yX1_golombLength, Cond.static yX1_golombLength, Cond.code yX1_golombLength cX1_golombLength 8 (some .long), Cond.methodLink RX1 149 yX1_golombWidth, Cond.static yX1_golombWidth, Cond.code yX1_golombWidth cX1_golombWidth 1 (some .int), Cond.methodLink RX1 152 yX1_golombShortRests, Cond.static yX1_golombShortRests, Cond.code yX1_golombShortRests cX1_golombShortRests 2 (some .long), Cond.methodLink RX1 140 yX1_groupsOf, Cond.static yX1_groupsOf, Cond.code yX1_groupsOf cX1_groupsOf 3 (some .int), Cond.methodLink RX1 155 Lib.Math.max.name, Cond.static Lib.Math.max.name, Cond.initialized "java/lang/Math", Cond.code Lib.Math.max.name Lib.Math.max.code 2 (some .int)]
def wsL_best : List Cond := .codeWith yL_best cL_best 5 (some .int) [(0, 10, 13, 13)] :: ((wsL_best_r1 ++ (wsL_best_r2 ++ wsL_best_r3)) ++ wsX10 ++ (vx_atS RX1 56 "java/lang/IllegalArgumentException" ["java/lang/RuntimeException", "java/lang/Exception"]).filter goodWord)
def wsL_putAll_r1 : List Cond := [Cond.classLink RL 13 "java/lang/IllegalArgumentException", Cond.methodLink RL 48 yX1_putAll, Cond.instanceMethod yX1_putAll, Cond.selects RX1 yX1_putAll yX1_putAll, Cond.initialized RX1, Cond.code yX1_putAll cX1_putAll 4 (some .int), Cond.fieldLink RX1 20 "SelfEndingCodes" "listed" "I", Cond.fieldLink RX1 16 "SelfEndingCodes" "list" "[J", Cond.methodLink RX1 29 yX1_requireCode, Cond.static yX1_requireCode, Cond.code yX1_requireCode cX1_requireCode 2 none, Cond.classLink RX1 52 "java/lang/IllegalArgumentException", Cond.initialized "java/lang/IllegalArgumentException", Cond.methodLink RX1 87 yX1_isCode, Cond.static yX1_isCode, Cond.code yX1_isCode cX1_isCode 2 (some .boolean), Cond.methodLink RX1 93 yX1_leastParameter, Cond.static yX1_leastParameter, Cond.code yX1_leastParameter cX1_leastParameter 1 (some .int), Cond.methodLink RX1 115 yX1_greatestParameter, Cond.static yX1_greatestParameter, Cond.code yX1_greatestParameter cX1_greatestParameter 1 (some .int), Cond.constant RX1 114 (1000000), Cond.methodLink RX1 41 yX1_appendIfRoom]
def wsL_putAll_r2 : List Cond := [Cond.instanceMethod yX1_appendIfRoom, Cond.selects RX1 yX1_appendIfRoom yX1_appendIfRoom, Cond.code yX1_appendIfRoom cX1_appendIfRoom 5 (some .boolean), Cond.fieldLink RX1 12 "SelfEndingCodes" "row" "LSelfEndingCodes$BitRow;", Cond.methodLink RX1 37 yX1_codewordLength, Cond.instanceMethod yX1_codewordLength, Cond.selects RX1 yX1_codewordLength yX1_codewordLength, Cond.code yX1_codewordLength cX1_codewordLength 5 (some .long), Cond.methodLink RX1 124 yX1_gammaLength, Cond.static yX1_gammaLength, Cond.code yX1_gammaLength cX1_gammaLength 2 (some .int), Cond.methodLink RX1 127 yX1_bitLength, Cond.static yX1_bitLength, Cond.code yX1_bitLength cX1_bitLength 2 (some .int), Cond.methodLink RX1 144 yJ13_numberOfLeadingZeros_95d88, Cond.static yJ13_numberOfLeadingZeros_95d88, Cond.initialized RJ13, Cond.code yJ13_numberOfLeadingZeros_95d88 cJ13_numberOfLeadingZeros_95d88 3 (some .int), Cond.methodLink RJ13 308 yJ6_numberOfLeadingZeros_0f7a4, Cond.static yJ6_numberOfLeadingZeros_0f7a4, Cond.initialized RJ6, Cond.code yJ6_numberOfLeadingZeros_0f7a4 cJ6_numberOfLeadingZeros_0f7a4 2 (some .int), Cond.constant RJ6 264 (65536), Cond.methodLink RX1 130 yX1_omegaLength]
def wsL_putAll_r3 : List Cond := [Cond.static yX1_omegaLength, Cond.code yX1_omegaLength cX1_omegaLength 7 (some .int), Cond.methodLink RX1 133 yX1_fibonacciLength, Cond.instanceMethod yX1_fibonacciLength, Cond.selects RX1 yX1_fibonacciLength yX1_fibonacciLength, Cond.code yX1_fibonacciLength cX1_fibonacciLength 7 (some .int), Cond.fieldLink RX1 24 "SelfEndingCodes" "fibonacci" "[J", Cond.methodLink RX1 136 yX1_golombLength, Cond.static yX1_golombLength, Cond.code yX1_golombLength cX1_golombLength 8 (some .long), Cond.methodLink RX1 149 yX1_golombWidth, Cond.static yX1_golombWidth, Cond.code yX1_golombWidth cX1_golombWidth 1 (some .int), Cond.methodLink RX1 152 yX1_golombShortRests, Cond.static yX1_golombShortRests, Cond.code yX1_golombShortRests cX1_golombShortRests 2 (some .long), Cond.methodLink RX1 140 yX1_groupsOf, Cond.static yX1_groupsOf, Cond.code yX1_groupsOf cX1_groupsOf 3 (some .int), Cond.methodLink RX1 155 Lib.Math.max.name, Cond.static Lib.Math.max.name, Cond.initialized "java/lang/Math", Cond.code Lib.Math.max.name Lib.Math.max.code 2 (some .int), Cond.methodLink RX1 59 yX0_room]
def wsL_putAll_r4 : List Cond := [Cond.instanceMethod yX0_room, Cond.selects RX0 yX0_room yX0_room, Cond.initialized RX0, Cond.code yX0_room cX0_room 1 (some .int), Cond.fieldLink RX0 15 "SelfEndingCodes$BitRow" "end" "I", Cond.methodLink RX1 163 yX1_appendCodeword, Cond.instanceMethod yX1_appendCodeword, Cond.selects RX1 yX1_appendCodeword yX1_appendCodeword, Cond.code yX1_appendCodeword cX1_appendCodeword 5 none, Cond.methodLink RX1 167 yX0_appendOnesAndZero, Cond.instanceMethod yX0_appendOnesAndZero, Cond.selects RX0 yX0_appendOnesAndZero yX0_appendOnesAndZero, Cond.code yX0_appendOnesAndZero cX0_appendOnesAndZero 4 none, Cond.methodLink RX0 35 yX0_setOne, Cond.instanceMethod yX0_setOne, Cond.selects RX0 yX0_setOne yX0_setOne, Cond.code yX0_setOne cX0_setOne 2 none, Cond.fieldLink RX0 9 "SelfEndingCodes$BitRow" "words" "[J", Cond.methodLink RX1 170 yX1_appendGamma, Cond.instanceMethod yX1_appendGamma, Cond.selects RX1 yX1_appendGamma yX1_appendGamma, Cond.code yX1_appendGamma cX1_appendGamma 3 none, Cond.methodLink RX1 63 yX0_appendBits, Cond.instanceMethod yX0_appendBits]
def wsL_putAll_r5 : List Cond := [Cond.selects RX0 yX0_appendBits yX0_appendBits, Cond.code yX0_appendBits cX0_appendBits 4 none, Cond.methodLink RX0 39 yX0_writeBits, Cond.instanceMethod yX0_writeBits, Cond.selects RX0 yX0_writeBits yX0_writeBits, Cond.code yX0_writeBits cX0_writeBits 6 none, Cond.methodLink RX1 173 yX1_appendOmega, Cond.instanceMethod yX1_appendOmega, Cond.selects RX1 yX1_appendOmega yX1_appendOmega, Cond.code yX1_appendOmega cX1_appendOmega 9 none, Cond.methodLink RX1 186 yX0_writeBits, Cond.methodLink RX1 176 yX1_appendFibonacci, Cond.instanceMethod yX1_appendFibonacci, Cond.selects RX1 yX1_appendFibonacci yX1_appendFibonacci, Cond.code yX1_appendFibonacci cX1_appendFibonacci 7 none, Cond.methodLink RX1 179 yX1_appendGolomb, Cond.instanceMethod yX1_appendGolomb, Cond.selects RX1 yX1_appendGolomb yX1_appendGolomb, Cond.code yX1_appendGolomb cX1_appendGolomb 9 none, Cond.methodLink RX1 183 yX1_appendGroups, Cond.instanceMethod yX1_appendGroups, Cond.selects RX1 yX1_appendGroups yX1_appendGroups, Cond.code yX1_appendGroups cX1_appendGroups 8 none]
def wsL_putAll : List Cond := .codeWith yL_putAll cL_putAll 5 (some .int) [(0, 10, 13, 13)] :: ((wsL_putAll_r1 ++ (wsL_putAll_r2 ++ (wsL_putAll_r3 ++ (wsL_putAll_r4 ++ wsL_putAll_r5)))) ++ wsX10 ++ wsX00 ++ (vx_atS RX1 56 "java/lang/IllegalArgumentException" ["java/lang/RuntimeException", "java/lang/Exception"]).filter goodWord)
def wsL_takeAll_r1 : List Cond := [Cond.classLink RL 13 "java/lang/IllegalArgumentException", Cond.methodLink RL 51 yX1_takeAll, Cond.instanceMethod yX1_takeAll, Cond.selects RX1 yX1_takeAll yX1_takeAll, Cond.initialized RX1, Cond.code yX1_takeAll cX1_takeAll 6 (some .int), Cond.fieldLink RX1 20 "SelfEndingCodes" "listed" "I", Cond.constantLong RX1 97 (-1), Cond.fieldLink RX1 16 "SelfEndingCodes" "list" "[J", Cond.methodLink RX1 29 yX1_requireCode, Cond.static yX1_requireCode, Cond.code yX1_requireCode cX1_requireCode 2 none, Cond.classLink RX1 52 "java/lang/IllegalArgumentException", Cond.initialized "java/lang/IllegalArgumentException", Cond.methodLink RX1 87 yX1_isCode, Cond.static yX1_isCode, Cond.code yX1_isCode cX1_isCode 2 (some .boolean), Cond.methodLink RX1 93 yX1_leastParameter, Cond.static yX1_leastParameter, Cond.code yX1_leastParameter cX1_leastParameter 1 (some .int), Cond.methodLink RX1 115 yX1_greatestParameter, Cond.static yX1_greatestParameter, Cond.code yX1_greatestParameter cX1_greatestParameter 1 (some .int), Cond.constant RX1 114 (1000000)]
def wsL_takeAll_r2 : List Cond := [Cond.methodLink RX1 48 yX1_readNext, Cond.instanceMethod yX1_readNext, Cond.selects RX1 yX1_readNext yX1_readNext, Cond.code yX1_readNext cX1_readNext 5 (some .long), Cond.fieldLink RX1 12 "SelfEndingCodes" "row" "LSelfEndingCodes$BitRow;", Cond.methodLink RX1 193 yX1_readCodeword, Cond.instanceMethod yX1_readCodeword, Cond.selects RX1 yX1_readCodeword yX1_readCodeword, Cond.code yX1_readCodeword cX1_readCodeword 3 (some .long), Cond.methodLink RX1 196 yX0_readOnesAndZero, Cond.instanceMethod yX0_readOnesAndZero, Cond.selects RX0 yX0_readOnesAndZero yX0_readOnesAndZero, Cond.initialized RX0, Cond.code yX0_readOnesAndZero cX0_readOnesAndZero 2 (some .int), Cond.methodLink RX0 49 yX0_readBit, Cond.instanceMethod yX0_readBit, Cond.selects RX0 yX0_readBit yX0_readBit, Cond.code yX0_readBit cX0_readBit 2 (some .int), Cond.fieldLink RX0 22 "SelfEndingCodes$BitRow" "cursor" "I", Cond.methodLink RX0 43 yX0_bitAt, Cond.instanceMethod yX0_bitAt, Cond.selects RX0 yX0_bitAt yX0_bitAt, Cond.code yX0_bitAt cX0_bitAt 3 (some .int), Cond.fieldLink RX0 15 "SelfEndingCodes$BitRow" "end" "I"]
def wsL_takeAll_r3 : List Cond := [Cond.fieldLink RX0 9 "SelfEndingCodes$BitRow" "words" "[J", Cond.constantLong RX0 31 (64), Cond.constantLong RX0 33 (63), Cond.methodLink RX1 199 yX1_readGamma, Cond.instanceMethod yX1_readGamma, Cond.selects RX1 yX1_readGamma yX1_readGamma, Cond.code yX1_readGamma cX1_readGamma 2 (some .long), Cond.methodLink RX1 222 yX0_readBit, Cond.methodLink RX1 225 yX0_readBits, Cond.instanceMethod yX0_readBits, Cond.selects RX0 yX0_readBits yX0_readBits, Cond.code yX0_readBits cX0_readBits 7 (some .long), Cond.constantLong RX0 47 (2), Cond.methodLink RX1 229 yX1_numberOrNone, Cond.static yX1_numberOrNone, Cond.code yX1_numberOrNone cX1_numberOrNone 2 (some .long), Cond.constantLong RX1 106 (4611686018427387904), Cond.methodLink RX1 203 yX1_readDelta, Cond.instanceMethod yX1_readDelta, Cond.selects RX1 yX1_readDelta yX1_readDelta, Cond.code yX1_readDelta cX1_readDelta 3 (some .long), Cond.constantLong RX1 233 (63), Cond.methodLink RX1 206 yX1_readOmega, Cond.instanceMethod yX1_readOmega]
def wsL_takeAll_r4 : List Cond := [Cond.selects RX1 yX1_readOmega yX1_readOmega, Cond.code yX1_readOmega cX1_readOmega 4 (some .long), Cond.methodLink RX1 209 yX1_readFibonacci, Cond.instanceMethod yX1_readFibonacci, Cond.selects RX1 yX1_readFibonacci yX1_readFibonacci, Cond.code yX1_readFibonacci cX1_readFibonacci 6 (some .long), Cond.fieldLink RX1 24 "SelfEndingCodes" "fibonacci" "[J", Cond.methodLink RX1 212 yX1_readGolomb, Cond.instanceMethod yX1_readGolomb, Cond.selects RX1 yX1_readGolomb yX1_readGolomb, Cond.code yX1_readGolomb cX1_readGolomb 9 (some .long), Cond.constantLong RX1 27 (2), Cond.methodLink RX1 149 yX1_golombWidth, Cond.static yX1_golombWidth, Cond.code yX1_golombWidth cX1_golombWidth 1 (some .int), Cond.methodLink RX1 127 yX1_bitLength, Cond.static yX1_bitLength, Cond.code yX1_bitLength cX1_bitLength 2 (some .int), Cond.methodLink RX1 144 yJ13_numberOfLeadingZeros_95d88, Cond.static yJ13_numberOfLeadingZeros_95d88, Cond.initialized RJ13, Cond.code yJ13_numberOfLeadingZeros_95d88 cJ13_numberOfLeadingZeros_95d88 3 (some .int), Cond.methodLink RJ13 308 yJ6_numberOfLeadingZeros_0f7a4, Cond.static yJ6_numberOfLeadingZeros_0f7a4]
def wsL_takeAll_r5 : List Cond := [Cond.initialized RJ6, Cond.code yJ6_numberOfLeadingZeros_0f7a4 cJ6_numberOfLeadingZeros_0f7a4 2 (some .int), Cond.constant RJ6 264 (65536), Cond.methodLink RX1 152 yX1_golombShortRests, Cond.static yX1_golombShortRests, Cond.code yX1_golombShortRests cX1_golombShortRests 2 (some .long), Cond.methodLink RX1 216 yX1_readExpGolomb, Cond.instanceMethod yX1_readExpGolomb, Cond.selects RX1 yX1_readExpGolomb yX1_readExpGolomb, Cond.code yX1_readExpGolomb cX1_readExpGolomb 4 (some .long), Cond.methodLink RX1 219 yX1_readGroups, Cond.instanceMethod yX1_readGroups, Cond.selects RX1 yX1_readGroups yX1_readGroups, Cond.code yX1_readGroups cX1_readGroups 9 (some .long)]
def wsL_takeAll : List Cond := .codeWith yL_takeAll cL_takeAll 5 (some .int) [(0, 10, 13, 13)] :: ((wsL_takeAll_r1 ++ (wsL_takeAll_r2 ++ (wsL_takeAll_r3 ++ (wsL_takeAll_r4 ++ wsL_takeAll_r5)))) ++ wsX10 ++ wsX00 ++ (vx_atS RX1 56 "java/lang/IllegalArgumentException" ["java/lang/RuntimeException", "java/lang/Exception"]).filter goodWord)
def wsL_count_r1 : List Cond := [Cond.classLink RL 13 "java/lang/IllegalArgumentException", Cond.methodLink RL 54 yX1_count, Cond.instanceMethod yX1_count, Cond.selects RX1 yX1_count yX1_count, Cond.initialized RX1, Cond.code yX1_count cX1_count 4 (some .long), Cond.methodLink RX1 29 yX1_requireCode, Cond.static yX1_requireCode, Cond.code yX1_requireCode cX1_requireCode 2 none, Cond.classLink RX1 52 "java/lang/IllegalArgumentException", Cond.initialized "java/lang/IllegalArgumentException", Cond.methodLink RX1 87 yX1_isCode, Cond.static yX1_isCode, Cond.code yX1_isCode cX1_isCode 2 (some .boolean), Cond.methodLink RX1 93 yX1_leastParameter, Cond.static yX1_leastParameter, Cond.code yX1_leastParameter cX1_leastParameter 1 (some .int), Cond.methodLink RX1 115 yX1_greatestParameter, Cond.static yX1_greatestParameter, Cond.code yX1_greatestParameter cX1_greatestParameter 1 (some .int), Cond.constant RX1 114 (1000000), Cond.methodLink RX1 99 yX1_requireLength, Cond.static yX1_requireLength, Cond.code yX1_requireLength cX1_requireLength 2 none]
def wsL_count_r2 : List Cond := [Cond.methodLink RX1 102 yX1_leastReaching, Cond.instanceMethod yX1_leastReaching, Cond.selects RX1 yX1_leastReaching yX1_leastReaching, Cond.code yX1_leastReaching cX1_leastReaching 11 (some .long), Cond.constantLong RX1 161 (4611686018427387905), Cond.constantLong RX1 27 (2), Cond.methodLink RX1 37 yX1_codewordLength, Cond.instanceMethod yX1_codewordLength, Cond.selects RX1 yX1_codewordLength yX1_codewordLength, Cond.code yX1_codewordLength cX1_codewordLength 5 (some .long), Cond.methodLink RX1 124 yX1_gammaLength, Cond.static yX1_gammaLength, Cond.code yX1_gammaLength cX1_gammaLength 2 (some .int), Cond.methodLink RX1 127 yX1_bitLength, Cond.static yX1_bitLength, Cond.code yX1_bitLength cX1_bitLength 2 (some .int), Cond.methodLink RX1 144 yJ13_numberOfLeadingZeros_95d88, Cond.static yJ13_numberOfLeadingZeros_95d88, Cond.initialized RJ13, Cond.code yJ13_numberOfLeadingZeros_95d88 cJ13_numberOfLeadingZeros_95d88 3 (some .int), Cond.methodLink RJ13 308 yJ6_numberOfLeadingZeros_0f7a4, Cond.static yJ6_numberOfLeadingZeros_0f7a4, Cond.initialized RJ6, Cond.code yJ6_numberOfLeadingZeros_0f7a4 cJ6_numberOfLeadingZeros_0f7a4 2 (some .int)]
def wsL_count_r3 : List Cond := [Cond.constant RJ6 264 (65536), Cond.methodLink RX1 130 yX1_omegaLength, Cond.static yX1_omegaLength, Cond.code yX1_omegaLength cX1_omegaLength 7 (some .int), Cond.methodLink RX1 133 yX1_fibonacciLength, Cond.instanceMethod yX1_fibonacciLength, Cond.selects RX1 yX1_fibonacciLength yX1_fibonacciLength, Cond.code yX1_fibonacciLength cX1_fibonacciLength 7 (some .int), Cond.fieldLink RX1 24 "SelfEndingCodes" "fibonacci" "[J", Cond.methodLink RX1 136 yX1_golombLength, Cond.static yX1_golombLength, Cond.code yX1_golombLength cX1_golombLength 8 (some .long), Cond.methodLink RX1 149 yX1_golombWidth, Cond.static yX1_golombWidth, Cond.code yX1_golombWidth cX1_golombWidth 1 (some .int), Cond.methodLink RX1 152 yX1_golombShortRests, Cond.static yX1_golombShortRests, Cond.code yX1_golombShortRests cX1_golombShortRests 2 (some .long), Cond.methodLink RX1 140 yX1_groupsOf, Cond.static yX1_groupsOf, Cond.code yX1_groupsOf cX1_groupsOf 3 (some .int), Cond.methodLink RX1 155 Lib.Math.max.name, Cond.static Lib.Math.max.name, Cond.initialized "java/lang/Math"]
def wsL_count_r4 : List Cond := [Cond.code Lib.Math.max.name Lib.Math.max.code 2 (some .int)]
def wsL_count : List Cond := .codeWith yL_count cL_count 6 (some .int) [(0, 11, 14, 13)] :: ((wsL_count_r1 ++ (wsL_count_r2 ++ (wsL_count_r3 ++ wsL_count_r4))) ++ wsX10 ++ (vx_atS RX1 56 "java/lang/IllegalArgumentException" ["java/lang/RuntimeException", "java/lang/Exception"]).filter goodWord)
def wsL_first_r1 : List Cond := [Cond.classLink RL 13 "java/lang/IllegalArgumentException", Cond.methodLink RL 58 yX1_first, Cond.instanceMethod yX1_first, Cond.selects RX1 yX1_first yX1_first, Cond.initialized RX1, Cond.code yX1_first cX1_first 7 (some .long), Cond.constantLong RX1 106 (4611686018427387904), Cond.constantLong RX1 97 (-1), Cond.methodLink RX1 29 yX1_requireCode, Cond.static yX1_requireCode, Cond.code yX1_requireCode cX1_requireCode 2 none, Cond.classLink RX1 52 "java/lang/IllegalArgumentException", Cond.initialized "java/lang/IllegalArgumentException", Cond.methodLink RX1 87 yX1_isCode, Cond.static yX1_isCode, Cond.code yX1_isCode cX1_isCode 2 (some .boolean), Cond.methodLink RX1 93 yX1_leastParameter, Cond.static yX1_leastParameter, Cond.code yX1_leastParameter cX1_leastParameter 1 (some .int), Cond.methodLink RX1 115 yX1_greatestParameter, Cond.static yX1_greatestParameter, Cond.code yX1_greatestParameter cX1_greatestParameter 1 (some .int), Cond.constant RX1 114 (1000000), Cond.methodLink RX1 99 yX1_requireLength]
def wsL_first_r2 : List Cond := [Cond.static yX1_requireLength, Cond.code yX1_requireLength cX1_requireLength 2 none, Cond.methodLink RX1 102 yX1_leastReaching, Cond.instanceMethod yX1_leastReaching, Cond.selects RX1 yX1_leastReaching yX1_leastReaching, Cond.code yX1_leastReaching cX1_leastReaching 11 (some .long), Cond.constantLong RX1 161 (4611686018427387905), Cond.constantLong RX1 27 (2), Cond.methodLink RX1 37 yX1_codewordLength, Cond.instanceMethod yX1_codewordLength, Cond.selects RX1 yX1_codewordLength yX1_codewordLength, Cond.code yX1_codewordLength cX1_codewordLength 5 (some .long), Cond.methodLink RX1 124 yX1_gammaLength, Cond.static yX1_gammaLength, Cond.code yX1_gammaLength cX1_gammaLength 2 (some .int), Cond.methodLink RX1 127 yX1_bitLength, Cond.static yX1_bitLength, Cond.code yX1_bitLength cX1_bitLength 2 (some .int), Cond.methodLink RX1 144 yJ13_numberOfLeadingZeros_95d88, Cond.static yJ13_numberOfLeadingZeros_95d88, Cond.initialized RJ13, Cond.code yJ13_numberOfLeadingZeros_95d88 cJ13_numberOfLeadingZeros_95d88 3 (some .int), Cond.methodLink RJ13 308 yJ6_numberOfLeadingZeros_0f7a4, Cond.static yJ6_numberOfLeadingZeros_0f7a4]
def wsL_first_r3 : List Cond := [Cond.initialized RJ6, Cond.code yJ6_numberOfLeadingZeros_0f7a4 cJ6_numberOfLeadingZeros_0f7a4 2 (some .int), Cond.constant RJ6 264 (65536), Cond.methodLink RX1 130 yX1_omegaLength, Cond.static yX1_omegaLength, Cond.code yX1_omegaLength cX1_omegaLength 7 (some .int), Cond.methodLink RX1 133 yX1_fibonacciLength, Cond.instanceMethod yX1_fibonacciLength, Cond.selects RX1 yX1_fibonacciLength yX1_fibonacciLength, Cond.code yX1_fibonacciLength cX1_fibonacciLength 7 (some .int), Cond.fieldLink RX1 24 "SelfEndingCodes" "fibonacci" "[J", Cond.methodLink RX1 136 yX1_golombLength, Cond.static yX1_golombLength, Cond.code yX1_golombLength cX1_golombLength 8 (some .long), Cond.methodLink RX1 149 yX1_golombWidth, Cond.static yX1_golombWidth, Cond.code yX1_golombWidth cX1_golombWidth 1 (some .int), Cond.methodLink RX1 152 yX1_golombShortRests, Cond.static yX1_golombShortRests, Cond.code yX1_golombShortRests cX1_golombShortRests 2 (some .long), Cond.methodLink RX1 140 yX1_groupsOf, Cond.static yX1_groupsOf, Cond.code yX1_groupsOf cX1_groupsOf 3 (some .int), Cond.methodLink RX1 155 Lib.Math.max.name]
def wsL_first_r4 : List Cond := [Cond.static Lib.Math.max.name, Cond.initialized "java/lang/Math", Cond.code Lib.Math.max.name Lib.Math.max.code 2 (some .int)]
def wsL_first : List Cond := .codeWith yL_first cL_first 6 (some .int) [(0, 11, 14, 13)] :: ((wsL_first_r1 ++ (wsL_first_r2 ++ (wsL_first_r3 ++ wsL_first_r4))) ++ wsX10 ++ (vx_atS RX1 56 "java/lang/IllegalArgumentException" ["java/lang/RuntimeException", "java/lang/Exception"]).filter goodWord)
def wsL_begun_r1 : List Cond := [Cond.classLink RL 13 "java/lang/IllegalArgumentException", Cond.methodLink RL 61 yX1_begun, Cond.instanceMethod yX1_begun, Cond.selects RX1 yX1_begun yX1_begun, Cond.initialized RX1, Cond.code yX1_begun cX1_begun 11 (some .long), Cond.constantLong RX1 27 (2), Cond.methodLink RX1 29 yX1_requireCode, Cond.static yX1_requireCode, Cond.code yX1_requireCode cX1_requireCode 2 none, Cond.classLink RX1 52 "java/lang/IllegalArgumentException", Cond.initialized "java/lang/IllegalArgumentException", Cond.methodLink RX1 87 yX1_isCode, Cond.static yX1_isCode, Cond.code yX1_isCode cX1_isCode 2 (some .boolean), Cond.methodLink RX1 93 yX1_leastParameter, Cond.static yX1_leastParameter, Cond.code yX1_leastParameter cX1_leastParameter 1 (some .int), Cond.methodLink RX1 115 yX1_greatestParameter, Cond.static yX1_greatestParameter, Cond.code yX1_greatestParameter cX1_greatestParameter 1 (some .int), Cond.constant RX1 114 (1000000), Cond.methodLink RX1 99 yX1_requireLength, Cond.static yX1_requireLength]
def wsL_begun_r2 : List Cond := [Cond.code yX1_requireLength cX1_requireLength 2 none, Cond.methodLink RX1 102 yX1_leastReaching, Cond.instanceMethod yX1_leastReaching, Cond.selects RX1 yX1_leastReaching yX1_leastReaching, Cond.code yX1_leastReaching cX1_leastReaching 11 (some .long), Cond.constantLong RX1 161 (4611686018427387905), Cond.methodLink RX1 37 yX1_codewordLength, Cond.instanceMethod yX1_codewordLength, Cond.selects RX1 yX1_codewordLength yX1_codewordLength, Cond.code yX1_codewordLength cX1_codewordLength 5 (some .long), Cond.methodLink RX1 124 yX1_gammaLength, Cond.static yX1_gammaLength, Cond.code yX1_gammaLength cX1_gammaLength 2 (some .int), Cond.methodLink RX1 127 yX1_bitLength, Cond.static yX1_bitLength, Cond.code yX1_bitLength cX1_bitLength 2 (some .int), Cond.methodLink RX1 144 yJ13_numberOfLeadingZeros_95d88, Cond.static yJ13_numberOfLeadingZeros_95d88, Cond.initialized RJ13, Cond.code yJ13_numberOfLeadingZeros_95d88 cJ13_numberOfLeadingZeros_95d88 3 (some .int), Cond.methodLink RJ13 308 yJ6_numberOfLeadingZeros_0f7a4, Cond.static yJ6_numberOfLeadingZeros_0f7a4, Cond.initialized RJ6, Cond.code yJ6_numberOfLeadingZeros_0f7a4 cJ6_numberOfLeadingZeros_0f7a4 2 (some .int)]
def wsL_begun_r3 : List Cond := [Cond.constant RJ6 264 (65536), Cond.methodLink RX1 130 yX1_omegaLength, Cond.static yX1_omegaLength, Cond.code yX1_omegaLength cX1_omegaLength 7 (some .int), Cond.methodLink RX1 133 yX1_fibonacciLength, Cond.instanceMethod yX1_fibonacciLength, Cond.selects RX1 yX1_fibonacciLength yX1_fibonacciLength, Cond.code yX1_fibonacciLength cX1_fibonacciLength 7 (some .int), Cond.fieldLink RX1 24 "SelfEndingCodes" "fibonacci" "[J", Cond.methodLink RX1 136 yX1_golombLength, Cond.static yX1_golombLength, Cond.code yX1_golombLength cX1_golombLength 8 (some .long), Cond.methodLink RX1 149 yX1_golombWidth, Cond.static yX1_golombWidth, Cond.code yX1_golombWidth cX1_golombWidth 1 (some .int), Cond.methodLink RX1 152 yX1_golombShortRests, Cond.static yX1_golombShortRests, Cond.code yX1_golombShortRests cX1_golombShortRests 2 (some .long), Cond.methodLink RX1 140 yX1_groupsOf, Cond.static yX1_groupsOf, Cond.code yX1_groupsOf cX1_groupsOf 3 (some .int), Cond.methodLink RX1 155 Lib.Math.max.name, Cond.static Lib.Math.max.name, Cond.initialized "java/lang/Math"]
def wsL_begun_r4 : List Cond := [Cond.code Lib.Math.max.name Lib.Math.max.code 2 (some .int)]
def wsL_begun : List Cond := .codeWith yL_begun cL_begun 6 (some .int) [(0, 11, 14, 13)] :: ((wsL_begun_r1 ++ (wsL_begun_r2 ++ (wsL_begun_r3 ++ wsL_begun_r4))) ++ wsX10 ++ (vx_atS RX1 56 "java/lang/IllegalArgumentException" ["java/lang/RuntimeException", "java/lang/Exception"]).filter goodWord)
def wsL_fold : List Cond := .codeWith yL_fold cL_fold 5 (some .int) [(0, 8, 11, 13)] :: ([.classLink RL 13 "java/lang/IllegalArgumentException", .methodLink RL 64 yX1_fold, .instanceMethod yX1_fold, .selects RX1 yX1_fold yX1_fold, .initialized RX1, .code yX1_fold cX1_fold 3 (some .long), .classLink RX1 52 "java/lang/IllegalArgumentException", .initialized "java/lang/IllegalArgumentException", .constantLong RX1 108 (2305843009213693952), .constantLong RX1 110 (-2305843009213693952), .constantLong RX1 27 (2)] ++ (vx_atS RX1 56 "java/lang/IllegalArgumentException" ["java/lang/RuntimeException", "java/lang/Exception"]).filter goodWord)
def wsL_unfold : List Cond := .codeWith yL_unfold cL_unfold 5 (some .int) [(0, 8, 11, 13)] :: ([.classLink RL 13 "java/lang/IllegalArgumentException", .methodLink RL 68 yX1_unfold, .instanceMethod yX1_unfold, .selects RX1 yX1_unfold yX1_unfold, .initialized RX1, .code yX1_unfold cX1_unfold 3 (some .long), .constantLong RX1 27 (2), .methodLink RX1 33 yX1_requireNumber, .static yX1_requireNumber, .code yX1_requireNumber cX1_requireNumber 2 none, .classLink RX1 52 "java/lang/IllegalArgumentException", .initialized "java/lang/IllegalArgumentException", .constantLong RX1 106 (4611686018427387904)] ++ (vx_atS RX1 56 "java/lang/IllegalArgumentException" ["java/lang/RuntimeException", "java/lang/Exception"]).filter goodWord)
theorem inJ6 : ∀ w ∈ wsJ60, w ∈ lw_tbl := by decide +kernel
theorem inJ13 : ∀ w ∈ wsJ130, w ∈ lw_tbl := by decide +kernel
theorem inJ9 : ∀ w ∈ wsJ90, w ∈ lw_tbl := by decide +kernel
theorem inJ0 : ∀ w ∈ wsJ00, w ∈ lw_tbl := by decide +kernel
theorem inJ7 : ∀ w ∈ wsJ70, w ∈ lw_tbl := by decide +kernel
theorem dX0_init_0 : decode cX0_init 0 = .ok (.aload_n 0, 1) := by decide +kernel
theorem dX0_init_1 : decode cX0_init 1 = .ok (.invokespecial 3, 3) := by decide +kernel
theorem dX0_init_4 : decode cX0_init 4 = .ok (.aload_n 0, 1) := by decide +kernel
theorem dX0_init_5 : decode cX0_init 5 = .ok (.bipush 64, 2) := by decide +kernel
theorem dX0_init_7 : decode cX0_init 7 = .ok (.newarray .long, 2) := by decide +kernel
theorem dX0_init_9 : decode cX0_init 9 = .ok (.putfield 9, 3) := by decide +kernel
theorem dX0_init_12 : decode cX0_init 12 = .ok (.aload_n 0, 1) := by decide +kernel
theorem dX0_init_13 : decode cX0_init 13 = .ok (.iconst 0, 1) := by decide +kernel
theorem dX0_init_14 : decode cX0_init 14 = .ok (.putfield 15, 3) := by decide +kernel
theorem dX0_init_17 : decode cX0_init 17 = .ok (.aload_n 0, 1) := by decide +kernel
theorem dX0_init_18 : decode cX0_init 18 = .ok (.iconst 0, 1) := by decide +kernel
theorem dX0_init_19 : decode cX0_init 19 = .ok (.putfield 19, 3) := by decide +kernel
theorem dX0_init_22 : decode cX0_init 22 = .ok (.aload_n 0, 1) := by decide +kernel
theorem dX0_init_23 : decode cX0_init 23 = .ok (.iconst 0, 1) := by decide +kernel
theorem dX0_init_24 : decode cX0_init 24 = .ok (.putfield 22, 3) := by decide +kernel
theorem dX0_init_27 : decode cX0_init 27 = .ok (.return_, 1) := by decide +kernel
theorem dX0_room_0 : decode cX0_room 0 = .ok (.sipush 4096, 3) := by decide +kernel
theorem dX0_room_3 : decode cX0_room 3 = .ok (.aload_n 0, 1) := by decide +kernel
theorem dX0_room_4 : decode cX0_room 4 = .ok (.getfield 15, 3) := by decide +kernel
theorem dX0_room_7 : decode cX0_room 7 = .ok (.isub, 1) := by decide +kernel
theorem dX0_room_8 : decode cX0_room 8 = .ok (.ireturn, 1) := by decide +kernel
set_option maxRecDepth 20000 in
theorem ggX0_makeEmpty_J7_fill_d0a16 : GoodIn wsX0_makeEmpty wsJ7_fill_d0a16 := goodIn_r _ [7] (by decide +kernel) (by decide +kernel)
set_option maxRecDepth 20000 in
theorem gX0_makeEmpty_J7_fill_d0a16 : GoodIn wsX0_makeEmpty (va_wsS RX0 25 yJ7_fill_d0a16 wsJ7_fill_d0a16) := goodIn_app (goodIn_of _ (by decide +kernel)) ggX0_makeEmpty_J7_fill_d0a16
theorem dX0_makeEmpty_0 : decode cX0_makeEmpty 0 = .ok (.aload_n 0, 1) := by decide +kernel
theorem dX0_makeEmpty_1 : decode cX0_makeEmpty 1 = .ok (.getfield 9, 3) := by decide +kernel
theorem dX0_makeEmpty_4 : decode cX0_makeEmpty 4 = .ok (.lconst 0, 1) := by decide +kernel
theorem dX0_makeEmpty_5 : decode cX0_makeEmpty 5 = .ok (.invokestatic 25, 3) := by decide +kernel
theorem dX0_makeEmpty_8 : decode cX0_makeEmpty 8 = .ok (.aload_n 0, 1) := by decide +kernel
theorem dX0_makeEmpty_9 : decode cX0_makeEmpty 9 = .ok (.iconst 0, 1) := by decide +kernel
theorem dX0_makeEmpty_10 : decode cX0_makeEmpty 10 = .ok (.putfield 15, 3) := by decide +kernel
theorem dX0_makeEmpty_13 : decode cX0_makeEmpty 13 = .ok (.aload_n 0, 1) := by decide +kernel
theorem dX0_makeEmpty_14 : decode cX0_makeEmpty 14 = .ok (.iconst 0, 1) := by decide +kernel
theorem dX0_makeEmpty_15 : decode cX0_makeEmpty 15 = .ok (.putfield 19, 3) := by decide +kernel
theorem dX0_makeEmpty_18 : decode cX0_makeEmpty 18 = .ok (.return_, 1) := by decide +kernel
theorem dX0_bitAt_0 : decode cX0_bitAt 0 = .ok (.lload_n 1, 1) := by decide +kernel
theorem dX0_bitAt_1 : decode cX0_bitAt 1 = .ok (.lconst 0, 1) := by decide +kernel
theorem dX0_bitAt_2 : decode cX0_bitAt 2 = .ok (.lcmp, 1) := by decide +kernel
theorem dX0_bitAt_3 : decode cX0_bitAt 3 = .ok (.ifCond .lt 13, 3) := by decide +kernel
theorem dX0_bitAt_6 : decode cX0_bitAt 6 = .ok (.lload_n 1, 1) := by decide +kernel
theorem dX0_bitAt_7 : decode cX0_bitAt 7 = .ok (.aload_n 0, 1) := by decide +kernel
theorem dX0_bitAt_8 : decode cX0_bitAt 8 = .ok (.getfield 15, 3) := by decide +kernel
theorem dX0_bitAt_11 : decode cX0_bitAt 11 = .ok (.i2l, 1) := by decide +kernel
theorem dX0_bitAt_12 : decode cX0_bitAt 12 = .ok (.lcmp, 1) := by decide +kernel
theorem dX0_bitAt_13 : decode cX0_bitAt 13 = .ok (.ifCond .lt 5, 3) := by decide +kernel
theorem dX0_bitAt_16 : decode cX0_bitAt 16 = .ok (.iconst 0, 1) := by decide +kernel
theorem dX0_bitAt_17 : decode cX0_bitAt 17 = .ok (.ireturn, 1) := by decide +kernel
theorem dX0_bitAt_18 : decode cX0_bitAt 18 = .ok (.aload_n 0, 1) := by decide +kernel
theorem dX0_bitAt_19 : decode cX0_bitAt 19 = .ok (.getfield 9, 3) := by decide +kernel
theorem dX0_bitAt_22 : decode cX0_bitAt 22 = .ok (.lload_n 1, 1) := by decide +kernel
theorem dX0_bitAt_23 : decode cX0_bitAt 23 = .ok (.ldc2_w 31, 3) := by decide +kernel
theorem dX0_bitAt_26 : decode cX0_bitAt 26 = .ok (.ldiv, 1) := by decide +kernel
theorem dX0_bitAt_27 : decode cX0_bitAt 27 = .ok (.l2i, 1) := by decide +kernel
theorem dX0_bitAt_28 : decode cX0_bitAt 28 = .ok (.laload, 1) := by decide +kernel
theorem dX0_bitAt_29 : decode cX0_bitAt 29 = .ok (.ldc2_w 33, 3) := by decide +kernel
theorem dX0_bitAt_32 : decode cX0_bitAt 32 = .ok (.lload_n 1, 1) := by decide +kernel
theorem dX0_bitAt_33 : decode cX0_bitAt 33 = .ok (.ldc2_w 31, 3) := by decide +kernel
theorem dX0_bitAt_36 : decode cX0_bitAt 36 = .ok (.lrem, 1) := by decide +kernel
theorem dX0_bitAt_37 : decode cX0_bitAt 37 = .ok (.lsub, 1) := by decide +kernel
theorem dX0_bitAt_38 : decode cX0_bitAt 38 = .ok (.l2i, 1) := by decide +kernel
theorem dX0_bitAt_39 : decode cX0_bitAt 39 = .ok (.lushr, 1) := by decide +kernel
theorem dX0_bitAt_40 : decode cX0_bitAt 40 = .ok (.l2i, 1) := by decide +kernel
theorem dX0_bitAt_41 : decode cX0_bitAt 41 = .ok (.iconst 1, 1) := by decide +kernel
theorem dX0_bitAt_42 : decode cX0_bitAt 42 = .ok (.iand, 1) := by decide +kernel
theorem dX0_bitAt_43 : decode cX0_bitAt 43 = .ok (.ireturn, 1) := by decide +kernel
theorem dX0_setOne_0 : decode cX0_setOne 0 = .ok (.iload_n 1, 1) := by decide +kernel
theorem dX0_setOne_1 : decode cX0_setOne 1 = .ok (.ifCond .lt 31, 3) := by decide +kernel
theorem dX0_setOne_4 : decode cX0_setOne 4 = .ok (.iload_n 1, 1) := by decide +kernel
theorem dX0_setOne_5 : decode cX0_setOne 5 = .ok (.sipush 4096, 3) := by decide +kernel
theorem dX0_setOne_8 : decode cX0_setOne 8 = .ok (.if_icmp .ge 24, 3) := by decide +kernel
theorem dX0_setOne_11 : decode cX0_setOne 11 = .ok (.aload_n 0, 1) := by decide +kernel
theorem dX0_setOne_12 : decode cX0_setOne 12 = .ok (.getfield 9, 3) := by decide +kernel
theorem dX0_setOne_15 : decode cX0_setOne 15 = .ok (.iload_n 1, 1) := by decide +kernel
theorem dX0_setOne_16 : decode cX0_setOne 16 = .ok (.bipush 64, 2) := by decide +kernel
theorem dX0_setOne_18 : decode cX0_setOne 18 = .ok (.idiv, 1) := by decide +kernel
theorem dX0_setOne_19 : decode cX0_setOne 19 = .ok (.dup2, 1) := by decide +kernel
theorem dX0_setOne_20 : decode cX0_setOne 20 = .ok (.laload, 1) := by decide +kernel
theorem dX0_setOne_21 : decode cX0_setOne 21 = .ok (.lconst 1, 1) := by decide +kernel
theorem dX0_setOne_22 : decode cX0_setOne 22 = .ok (.bipush 63, 2) := by decide +kernel
theorem dX0_setOne_24 : decode cX0_setOne 24 = .ok (.iload_n 1, 1) := by decide +kernel
theorem dX0_setOne_25 : decode cX0_setOne 25 = .ok (.bipush 64, 2) := by decide +kernel
theorem dX0_setOne_27 : decode cX0_setOne 27 = .ok (.irem, 1) := by decide +kernel
theorem dX0_setOne_28 : decode cX0_setOne 28 = .ok (.isub, 1) := by decide +kernel
theorem dX0_setOne_29 : decode cX0_setOne 29 = .ok (.lshl, 1) := by decide +kernel
theorem dX0_setOne_30 : decode cX0_setOne 30 = .ok (.lor, 1) := by decide +kernel
theorem dX0_setOne_31 : decode cX0_setOne 31 = .ok (.lastore, 1) := by decide +kernel
theorem dX0_setOne_32 : decode cX0_setOne 32 = .ok (.return_, 1) := by decide +kernel
set_option maxRecDepth 20000 in
theorem ggX0_writeBits_X0_setOne : GoodIn wsX0_writeBits wsX0_setOne := goodIn_r _ [5, 6, 7, 8, 9, 10] (by decide +kernel) (by decide +kernel)
set_option maxRecDepth 20000 in
theorem gX0_writeBits_X0_setOne : GoodIn wsX0_writeBits (wsV RX0 35 RX0 yX0_setOne wsX0_setOne) := goodIn_app (goodIn_of _ (by decide +kernel)) ggX0_writeBits_X0_setOne
theorem dX0_writeBits_0 : decode cX0_writeBits 0 = .ok (.iconst 0, 1) := by decide +kernel
theorem dX0_writeBits_1 : decode cX0_writeBits 1 = .ok (.istore 5, 2) := by decide +kernel
theorem dX0_writeBits_3 : decode cX0_writeBits 3 = .ok (.iload 5, 2) := by decide +kernel
theorem dX0_writeBits_5 : decode cX0_writeBits 5 = .ok (.iload 4, 2) := by decide +kernel
theorem dX0_writeBits_7 : decode cX0_writeBits 7 = .ok (.if_icmp .ge 33, 3) := by decide +kernel
theorem dX0_writeBits_10 : decode cX0_writeBits 10 = .ok (.lload_n 2, 1) := by decide +kernel
theorem dX0_writeBits_11 : decode cX0_writeBits 11 = .ok (.iload 4, 2) := by decide +kernel
theorem dX0_writeBits_13 : decode cX0_writeBits 13 = .ok (.iconst 1, 1) := by decide +kernel
theorem dX0_writeBits_14 : decode cX0_writeBits 14 = .ok (.isub, 1) := by decide +kernel
theorem dX0_writeBits_15 : decode cX0_writeBits 15 = .ok (.iload 5, 2) := by decide +kernel
theorem dX0_writeBits_17 : decode cX0_writeBits 17 = .ok (.isub, 1) := by decide +kernel
theorem dX0_writeBits_18 : decode cX0_writeBits 18 = .ok (.lushr, 1) := by decide +kernel
theorem dX0_writeBits_19 : decode cX0_writeBits 19 = .ok (.lconst 1, 1) := by decide +kernel
theorem dX0_writeBits_20 : decode cX0_writeBits 20 = .ok (.land, 1) := by decide +kernel
theorem dX0_writeBits_21 : decode cX0_writeBits 21 = .ok (.lconst 1, 1) := by decide +kernel
theorem dX0_writeBits_22 : decode cX0_writeBits 22 = .ok (.lcmp, 1) := by decide +kernel
theorem dX0_writeBits_23 : decode cX0_writeBits 23 = .ok (.ifCond .ne 11, 3) := by decide +kernel
theorem dX0_writeBits_26 : decode cX0_writeBits 26 = .ok (.aload_n 0, 1) := by decide +kernel
theorem dX0_writeBits_27 : decode cX0_writeBits 27 = .ok (.iload_n 1, 1) := by decide +kernel
theorem dX0_writeBits_28 : decode cX0_writeBits 28 = .ok (.iload 5, 2) := by decide +kernel
theorem dX0_writeBits_30 : decode cX0_writeBits 30 = .ok (.iadd, 1) := by decide +kernel
theorem dX0_writeBits_31 : decode cX0_writeBits 31 = .ok (.invokevirtual 35, 3) := by decide +kernel
theorem dX0_writeBits_34 : decode cX0_writeBits 34 = .ok (.iinc 5 1, 3) := by decide +kernel
theorem dX0_writeBits_37 : decode cX0_writeBits 37 = .ok (.goto (-34), 3) := by decide +kernel
theorem dX0_writeBits_40 : decode cX0_writeBits 40 = .ok (.return_, 1) := by decide +kernel
set_option maxRecDepth 20000 in
theorem ggX0_appendBits_X0_writeBits : GoodIn wsX0_appendBits wsX0_writeBits := goodIn_r _ [6, 7, 8, 9, 5, 10, 11, 12, 13, 14, 15] (by decide +kernel) (by decide +kernel)
set_option maxRecDepth 20000 in
theorem gX0_appendBits_X0_writeBits : GoodIn wsX0_appendBits (wsV RX0 39 RX0 yX0_writeBits wsX0_writeBits) := goodIn_app (goodIn_of _ (by decide +kernel)) ggX0_appendBits_X0_writeBits
theorem dX0_appendBits_0 : decode cX0_appendBits 0 = .ok (.aload_n 0, 1) := by decide +kernel
theorem dX0_appendBits_1 : decode cX0_appendBits 1 = .ok (.aload_n 0, 1) := by decide +kernel
theorem dX0_appendBits_2 : decode cX0_appendBits 2 = .ok (.getfield 15, 3) := by decide +kernel
theorem dX0_appendBits_5 : decode cX0_appendBits 5 = .ok (.lload_n 1, 1) := by decide +kernel
theorem dX0_appendBits_6 : decode cX0_appendBits 6 = .ok (.iload_n 3, 1) := by decide +kernel
theorem dX0_appendBits_7 : decode cX0_appendBits 7 = .ok (.invokevirtual 39, 3) := by decide +kernel
theorem dX0_appendBits_10 : decode cX0_appendBits 10 = .ok (.aload_n 0, 1) := by decide +kernel
theorem dX0_appendBits_11 : decode cX0_appendBits 11 = .ok (.dup, 1) := by decide +kernel
theorem dX0_appendBits_12 : decode cX0_appendBits 12 = .ok (.getfield 15, 3) := by decide +kernel
theorem dX0_appendBits_15 : decode cX0_appendBits 15 = .ok (.iload_n 3, 1) := by decide +kernel
theorem dX0_appendBits_16 : decode cX0_appendBits 16 = .ok (.iadd, 1) := by decide +kernel
theorem dX0_appendBits_17 : decode cX0_appendBits 17 = .ok (.putfield 15, 3) := by decide +kernel
theorem dX0_appendBits_20 : decode cX0_appendBits 20 = .ok (.return_, 1) := by decide +kernel
set_option maxRecDepth 20000 in
theorem ggX0_appendOnesAndZero_X0_setOne : GoodIn wsX0_appendOnesAndZero wsX0_setOne := goodIn_r _ [6, 7, 8, 9, 10, 11] (by decide +kernel) (by decide +kernel)
set_option maxRecDepth 20000 in
theorem gX0_appendOnesAndZero_X0_setOne : GoodIn wsX0_appendOnesAndZero (wsV RX0 35 RX0 yX0_setOne wsX0_setOne) := goodIn_app (goodIn_of _ (by decide +kernel)) ggX0_appendOnesAndZero_X0_setOne
theorem dX0_appendOnesAndZero_0 : decode cX0_appendOnesAndZero 0 = .ok (.iconst 0, 1) := by decide +kernel
theorem dX0_appendOnesAndZero_1 : decode cX0_appendOnesAndZero 1 = .ok (.istore_n 3, 1) := by decide +kernel
theorem dX0_appendOnesAndZero_2 : decode cX0_appendOnesAndZero 2 = .ok (.iload_n 3, 1) := by decide +kernel
theorem dX0_appendOnesAndZero_3 : decode cX0_appendOnesAndZero 3 = .ok (.i2l, 1) := by decide +kernel
theorem dX0_appendOnesAndZero_4 : decode cX0_appendOnesAndZero 4 = .ok (.lload_n 1, 1) := by decide +kernel
theorem dX0_appendOnesAndZero_5 : decode cX0_appendOnesAndZero 5 = .ok (.lcmp, 1) := by decide +kernel
theorem dX0_appendOnesAndZero_6 : decode cX0_appendOnesAndZero 6 = .ok (.ifCond .ge 26, 3) := by decide +kernel
theorem dX0_appendOnesAndZero_9 : decode cX0_appendOnesAndZero 9 = .ok (.iload_n 3, 1) := by decide +kernel
theorem dX0_appendOnesAndZero_10 : decode cX0_appendOnesAndZero 10 = .ok (.sipush 4096, 3) := by decide +kernel
theorem dX0_appendOnesAndZero_13 : decode cX0_appendOnesAndZero 13 = .ok (.if_icmp .ge 19, 3) := by decide +kernel
theorem dX0_appendOnesAndZero_16 : decode cX0_appendOnesAndZero 16 = .ok (.aload_n 0, 1) := by decide +kernel
theorem dX0_appendOnesAndZero_17 : decode cX0_appendOnesAndZero 17 = .ok (.aload_n 0, 1) := by decide +kernel
theorem dX0_appendOnesAndZero_18 : decode cX0_appendOnesAndZero 18 = .ok (.getfield 15, 3) := by decide +kernel
theorem dX0_appendOnesAndZero_21 : decode cX0_appendOnesAndZero 21 = .ok (.iload_n 3, 1) := by decide +kernel
theorem dX0_appendOnesAndZero_22 : decode cX0_appendOnesAndZero 22 = .ok (.iadd, 1) := by decide +kernel
theorem dX0_appendOnesAndZero_23 : decode cX0_appendOnesAndZero 23 = .ok (.invokevirtual 35, 3) := by decide +kernel
theorem dX0_appendOnesAndZero_26 : decode cX0_appendOnesAndZero 26 = .ok (.iinc 3 1, 3) := by decide +kernel
theorem dX0_appendOnesAndZero_29 : decode cX0_appendOnesAndZero 29 = .ok (.goto (-27), 3) := by decide +kernel
theorem dX0_appendOnesAndZero_32 : decode cX0_appendOnesAndZero 32 = .ok (.aload_n 0, 1) := by decide +kernel
theorem dX0_appendOnesAndZero_33 : decode cX0_appendOnesAndZero 33 = .ok (.dup, 1) := by decide +kernel
theorem dX0_appendOnesAndZero_34 : decode cX0_appendOnesAndZero 34 = .ok (.getfield 15, 3) := by decide +kernel
theorem dX0_appendOnesAndZero_37 : decode cX0_appendOnesAndZero 37 = .ok (.lload_n 1, 1) := by decide +kernel
theorem dX0_appendOnesAndZero_38 : decode cX0_appendOnesAndZero 38 = .ok (.l2i, 1) := by decide +kernel
theorem dX0_appendOnesAndZero_39 : decode cX0_appendOnesAndZero 39 = .ok (.iconst 1, 1) := by decide +kernel
theorem dX0_appendOnesAndZero_40 : decode cX0_appendOnesAndZero 40 = .ok (.iadd, 1) := by decide +kernel
theorem dX0_appendOnesAndZero_41 : decode cX0_appendOnesAndZero 41 = .ok (.iadd, 1) := by decide +kernel
theorem dX0_appendOnesAndZero_42 : decode cX0_appendOnesAndZero 42 = .ok (.putfield 15, 3) := by decide +kernel
theorem dX0_appendOnesAndZero_45 : decode cX0_appendOnesAndZero 45 = .ok (.return_, 1) := by decide +kernel
set_option maxRecDepth 20000 in
theorem ggX0_readBit_X0_bitAt : GoodIn wsX0_readBit wsX0_bitAt := goodIn_r _ [6, 7, 8, 9, 10, 11, 12, 13, 14] (by decide +kernel) (by decide +kernel)
set_option maxRecDepth 20000 in
theorem gX0_readBit_X0_bitAt : GoodIn wsX0_readBit (wsV RX0 43 RX0 yX0_bitAt wsX0_bitAt) := goodIn_app (goodIn_of _ (by decide +kernel)) ggX0_readBit_X0_bitAt
theorem dX0_readBit_0 : decode cX0_readBit 0 = .ok (.aload_n 0, 1) := by decide +kernel
theorem dX0_readBit_1 : decode cX0_readBit 1 = .ok (.aload_n 0, 1) := by decide +kernel
theorem dX0_readBit_2 : decode cX0_readBit 2 = .ok (.getfield 22, 3) := by decide +kernel
theorem dX0_readBit_5 : decode cX0_readBit 5 = .ok (.i2l, 1) := by decide +kernel
theorem dX0_readBit_6 : decode cX0_readBit 6 = .ok (.invokevirtual 43, 3) := by decide +kernel
theorem dX0_readBit_9 : decode cX0_readBit 9 = .ok (.istore_n 1, 1) := by decide +kernel
theorem dX0_readBit_10 : decode cX0_readBit 10 = .ok (.aload_n 0, 1) := by decide +kernel
theorem dX0_readBit_11 : decode cX0_readBit 11 = .ok (.dup, 1) := by decide +kernel
theorem dX0_readBit_12 : decode cX0_readBit 12 = .ok (.getfield 22, 3) := by decide +kernel
theorem dX0_readBit_15 : decode cX0_readBit 15 = .ok (.iconst 1, 1) := by decide +kernel
theorem dX0_readBit_16 : decode cX0_readBit 16 = .ok (.iadd, 1) := by decide +kernel
theorem dX0_readBit_17 : decode cX0_readBit 17 = .ok (.putfield 22, 3) := by decide +kernel
theorem dX0_readBit_20 : decode cX0_readBit 20 = .ok (.iload_n 1, 1) := by decide +kernel
theorem dX0_readBit_21 : decode cX0_readBit 21 = .ok (.ireturn, 1) := by decide +kernel
set_option maxRecDepth 20000 in
theorem ggX0_readBits_X0_bitAt : GoodIn wsX0_readBits wsX0_bitAt := goodIn_r _ [7, 8, 9, 10, 11, 12, 13, 14, 15] (by decide +kernel) (by decide +kernel)
set_option maxRecDepth 20000 in
theorem gX0_readBits_X0_bitAt : GoodIn wsX0_readBits (wsV RX0 43 RX0 yX0_bitAt wsX0_bitAt) := goodIn_app (goodIn_of _ (by decide +kernel)) ggX0_readBits_X0_bitAt
theorem dX0_readBits_0 : decode cX0_readBits 0 = .ok (.lload_n 1, 1) := by decide +kernel
theorem dX0_readBits_1 : decode cX0_readBits 1 = .ok (.lstore 4, 2) := by decide +kernel
theorem dX0_readBits_3 : decode cX0_readBits 3 = .ok (.iconst 0, 1) := by decide +kernel
theorem dX0_readBits_4 : decode cX0_readBits 4 = .ok (.istore 6, 2) := by decide +kernel
theorem dX0_readBits_6 : decode cX0_readBits 6 = .ok (.iload 6, 2) := by decide +kernel
theorem dX0_readBits_8 : decode cX0_readBits 8 = .ok (.iload_n 3, 1) := by decide +kernel
theorem dX0_readBits_9 : decode cX0_readBits 9 = .ok (.if_icmp .ge 31, 3) := by decide +kernel
theorem dX0_readBits_12 : decode cX0_readBits 12 = .ok (.ldc2_w 47, 3) := by decide +kernel
theorem dX0_readBits_15 : decode cX0_readBits 15 = .ok (.lload 4, 2) := by decide +kernel
theorem dX0_readBits_17 : decode cX0_readBits 17 = .ok (.lmul, 1) := by decide +kernel
theorem dX0_readBits_18 : decode cX0_readBits 18 = .ok (.aload_n 0, 1) := by decide +kernel
theorem dX0_readBits_19 : decode cX0_readBits 19 = .ok (.aload_n 0, 1) := by decide +kernel
theorem dX0_readBits_20 : decode cX0_readBits 20 = .ok (.getfield 22, 3) := by decide +kernel
theorem dX0_readBits_23 : decode cX0_readBits 23 = .ok (.iload 6, 2) := by decide +kernel
theorem dX0_readBits_25 : decode cX0_readBits 25 = .ok (.iadd, 1) := by decide +kernel
theorem dX0_readBits_26 : decode cX0_readBits 26 = .ok (.i2l, 1) := by decide +kernel
theorem dX0_readBits_27 : decode cX0_readBits 27 = .ok (.invokevirtual 43, 3) := by decide +kernel
theorem dX0_readBits_30 : decode cX0_readBits 30 = .ok (.i2l, 1) := by decide +kernel
theorem dX0_readBits_31 : decode cX0_readBits 31 = .ok (.ladd, 1) := by decide +kernel
theorem dX0_readBits_32 : decode cX0_readBits 32 = .ok (.lstore 4, 2) := by decide +kernel
theorem dX0_readBits_34 : decode cX0_readBits 34 = .ok (.iinc 6 1, 3) := by decide +kernel
theorem dX0_readBits_37 : decode cX0_readBits 37 = .ok (.goto (-31), 3) := by decide +kernel
theorem dX0_readBits_40 : decode cX0_readBits 40 = .ok (.aload_n 0, 1) := by decide +kernel
theorem dX0_readBits_41 : decode cX0_readBits 41 = .ok (.dup, 1) := by decide +kernel
theorem dX0_readBits_42 : decode cX0_readBits 42 = .ok (.getfield 22, 3) := by decide +kernel
theorem dX0_readBits_45 : decode cX0_readBits 45 = .ok (.iload_n 3, 1) := by decide +kernel
theorem dX0_readBits_46 : decode cX0_readBits 46 = .ok (.iadd, 1) := by decide +kernel
theorem dX0_readBits_47 : decode cX0_readBits 47 = .ok (.putfield 22, 3) := by decide +kernel
theorem dX0_readBits_50 : decode cX0_readBits 50 = .ok (.lload 4, 2) := by decide +kernel
theorem dX0_readBits_52 : decode cX0_readBits 52 = .ok (.lreturn, 1) := by decide +kernel
set_option maxRecDepth 20000 in
theorem ggX0_readOnesAndZero_X0_readBit : GoodIn wsX0_readOnesAndZero wsX0_readBit := goodIn_r _ [5, 6, 7, 8, 9, 4, 10, 11, 12, 13, 14, 15, 16, 17, 18] (by decide +kernel) (by decide +kernel)
set_option maxRecDepth 20000 in
theorem gX0_readOnesAndZero_X0_readBit : GoodIn wsX0_readOnesAndZero (wsV RX0 49 RX0 yX0_readBit wsX0_readBit) := goodIn_app (goodIn_of _ (by decide +kernel)) ggX0_readOnesAndZero_X0_readBit
theorem dX0_readOnesAndZero_0 : decode cX0_readOnesAndZero 0 = .ok (.iconst 0, 1) := by decide +kernel
theorem dX0_readOnesAndZero_1 : decode cX0_readOnesAndZero 1 = .ok (.istore_n 1, 1) := by decide +kernel
theorem dX0_readOnesAndZero_2 : decode cX0_readOnesAndZero 2 = .ok (.iload_n 1, 1) := by decide +kernel
theorem dX0_readOnesAndZero_3 : decode cX0_readOnesAndZero 3 = .ok (.sipush 4096, 3) := by decide +kernel
theorem dX0_readOnesAndZero_6 : decode cX0_readOnesAndZero 6 = .ok (.if_icmp .gt 17, 3) := by decide +kernel
theorem dX0_readOnesAndZero_9 : decode cX0_readOnesAndZero 9 = .ok (.aload_n 0, 1) := by decide +kernel
theorem dX0_readOnesAndZero_10 : decode cX0_readOnesAndZero 10 = .ok (.invokevirtual 49, 3) := by decide +kernel
theorem dX0_readOnesAndZero_13 : decode cX0_readOnesAndZero 13 = .ok (.iconst 1, 1) := by decide +kernel
theorem dX0_readOnesAndZero_14 : decode cX0_readOnesAndZero 14 = .ok (.if_icmp .ne 9, 3) := by decide +kernel
theorem dX0_readOnesAndZero_17 : decode cX0_readOnesAndZero 17 = .ok (.iinc 1 1, 3) := by decide +kernel
theorem dX0_readOnesAndZero_20 : decode cX0_readOnesAndZero 20 = .ok (.goto (-18), 3) := by decide +kernel
theorem dX0_readOnesAndZero_23 : decode cX0_readOnesAndZero 23 = .ok (.iload_n 1, 1) := by decide +kernel
theorem dX0_readOnesAndZero_24 : decode cX0_readOnesAndZero 24 = .ok (.ireturn, 1) := by decide +kernel
set_option maxRecDepth 20000 in
theorem ggX1_init_X0_init : GoodIn wsX1_init wsX0_init := goodIn_r _ [14, 15, 2, 3, 8, 16, 17, 18, 19, 20, 21, 22, 23] (by decide +kernel) (by decide +kernel)
set_option maxRecDepth 20000 in
theorem gX1_init_X0_init_n11 : GoodIn wsX1_init (wsX0_init) := ggX1_init_X0_init
theorem dX1_init_0 : decode cX1_init 0 = .ok (.aload_n 0, 1) := by decide +kernel
theorem dX1_init_1 : decode cX1_init 1 = .ok (.invokespecial 3, 3) := by decide +kernel
theorem dX1_init_4 : decode cX1_init 4 = .ok (.aload_n 0, 1) := by decide +kernel
theorem dX1_init_5 : decode cX1_init 5 = .ok (.new 9, 3) := by decide +kernel
theorem dX1_init_8 : decode cX1_init 8 = .ok (.dup, 1) := by decide +kernel
theorem dX1_init_9 : decode cX1_init 9 = .ok (.invokespecial 11, 3) := by decide +kernel
theorem dX1_init_12 : decode cX1_init 12 = .ok (.putfield 12, 3) := by decide +kernel
theorem dX1_init_15 : decode cX1_init 15 = .ok (.aload_n 0, 1) := by decide +kernel
theorem dX1_init_16 : decode cX1_init 16 = .ok (.bipush 100, 2) := by decide +kernel
theorem dX1_init_18 : decode cX1_init 18 = .ok (.newarray .long, 2) := by decide +kernel
theorem dX1_init_20 : decode cX1_init 20 = .ok (.putfield 16, 3) := by decide +kernel
theorem dX1_init_23 : decode cX1_init 23 = .ok (.aload_n 0, 1) := by decide +kernel
theorem dX1_init_24 : decode cX1_init 24 = .ok (.iconst 0, 1) := by decide +kernel
theorem dX1_init_25 : decode cX1_init 25 = .ok (.putfield 20, 3) := by decide +kernel
theorem dX1_init_28 : decode cX1_init 28 = .ok (.aload_n 0, 1) := by decide +kernel
theorem dX1_init_29 : decode cX1_init 29 = .ok (.bipush 89, 2) := by decide +kernel
theorem dX1_init_31 : decode cX1_init 31 = .ok (.newarray .long, 2) := by decide +kernel
theorem dX1_init_33 : decode cX1_init 33 = .ok (.putfield 24, 3) := by decide +kernel
theorem dX1_init_36 : decode cX1_init 36 = .ok (.aload_n 0, 1) := by decide +kernel
theorem dX1_init_37 : decode cX1_init 37 = .ok (.getfield 24, 3) := by decide +kernel
theorem dX1_init_40 : decode cX1_init 40 = .ok (.iconst 0, 1) := by decide +kernel
theorem dX1_init_41 : decode cX1_init 41 = .ok (.lconst 1, 1) := by decide +kernel
theorem dX1_init_42 : decode cX1_init 42 = .ok (.lastore, 1) := by decide +kernel
theorem dX1_init_43 : decode cX1_init 43 = .ok (.aload_n 0, 1) := by decide +kernel
theorem dX1_init_44 : decode cX1_init 44 = .ok (.getfield 24, 3) := by decide +kernel
theorem dX1_init_47 : decode cX1_init 47 = .ok (.iconst 1, 1) := by decide +kernel
theorem dX1_init_48 : decode cX1_init 48 = .ok (.ldc2_w 27, 3) := by decide +kernel
theorem dX1_init_51 : decode cX1_init 51 = .ok (.lastore, 1) := by decide +kernel
theorem dX1_init_52 : decode cX1_init 52 = .ok (.iconst 2, 1) := by decide +kernel
theorem dX1_init_53 : decode cX1_init 53 = .ok (.istore_n 1, 1) := by decide +kernel
theorem dX1_init_54 : decode cX1_init 54 = .ok (.iload_n 1, 1) := by decide +kernel
theorem dX1_init_55 : decode cX1_init 55 = .ok (.bipush 89, 2) := by decide +kernel
theorem dX1_init_57 : decode cX1_init 57 = .ok (.if_icmp .ge 32, 3) := by decide +kernel
theorem dX1_init_60 : decode cX1_init 60 = .ok (.aload_n 0, 1) := by decide +kernel
theorem dX1_init_61 : decode cX1_init 61 = .ok (.getfield 24, 3) := by decide +kernel
theorem dX1_init_64 : decode cX1_init 64 = .ok (.iload_n 1, 1) := by decide +kernel
theorem dX1_init_65 : decode cX1_init 65 = .ok (.aload_n 0, 1) := by decide +kernel
theorem dX1_init_66 : decode cX1_init 66 = .ok (.getfield 24, 3) := by decide +kernel
theorem dX1_init_69 : decode cX1_init 69 = .ok (.iload_n 1, 1) := by decide +kernel
theorem dX1_init_70 : decode cX1_init 70 = .ok (.iconst 1, 1) := by decide +kernel
theorem dX1_init_71 : decode cX1_init 71 = .ok (.isub, 1) := by decide +kernel
theorem dX1_init_72 : decode cX1_init 72 = .ok (.laload, 1) := by decide +kernel
theorem dX1_init_73 : decode cX1_init 73 = .ok (.aload_n 0, 1) := by decide +kernel
theorem dX1_init_74 : decode cX1_init 74 = .ok (.getfield 24, 3) := by decide +kernel
theorem dX1_init_77 : decode cX1_init 77 = .ok (.iload_n 1, 1) := by decide +kernel
theorem dX1_init_78 : decode cX1_init 78 = .ok (.iconst 2, 1) := by decide +kernel
theorem dX1_init_79 : decode cX1_init 79 = .ok (.isub, 1) := by decide +kernel
theorem dX1_init_80 : decode cX1_init 80 = .ok (.laload, 1) := by decide +kernel
theorem dX1_init_81 : decode cX1_init 81 = .ok (.ladd, 1) := by decide +kernel
theorem dX1_init_82 : decode cX1_init 82 = .ok (.lastore, 1) := by decide +kernel
theorem dX1_init_83 : decode cX1_init 83 = .ok (.iinc 1 1, 3) := by decide +kernel
theorem dX1_init_86 : decode cX1_init 86 = .ok (.goto (-32), 3) := by decide +kernel
theorem dX1_init_89 : decode cX1_init 89 = .ok (.return_, 1) := by decide +kernel
set_option maxRecDepth 20000 in
theorem ggX1_length_X1_requireCode : GoodIn wsX1_length wsX1_requireCode := goodIn_ca (goodIn_r _ [4, 5, 6, 7, 8, 3, 9, 10, 11, 12, 13, 14, 15, 16] (by decide +kernel) (by decide +kernel)) (goodIn_sub (fun _ h => List.mem_cons_of_mem _ (List.mem_append_right _ h)) (by decide +kernel))
set_option maxRecDepth 20000 in
theorem gX1_length_X1_requireCode : GoodIn wsX1_length (va_wsS RX1 29 yX1_requireCode wsX1_requireCode) := goodIn_app (goodIn_of _ (by decide +kernel)) ggX1_length_X1_requireCode
set_option maxRecDepth 20000 in
theorem ggX1_length_X1_requireNumber : GoodIn wsX1_length wsX1_requireNumber := goodIn_ca (goodIn_r _ [19, 5, 6, 20] (by decide +kernel) (by decide +kernel)) (goodIn_sub (fun _ h => List.mem_cons_of_mem _ (List.mem_append_right _ h)) (by decide +kernel))
set_option maxRecDepth 20000 in
theorem gX1_length_X1_requireNumber : GoodIn wsX1_length (va_wsS RX1 33 yX1_requireNumber wsX1_requireNumber) := goodIn_app (goodIn_of _ (by decide +kernel)) ggX1_length_X1_requireNumber
set_option maxRecDepth 20000 in
theorem ggX1_length_X1_codewordLength : GoodIn wsX1_length wsX1_codewordLength := goodIn_r _ [24, 25, 26, 3, 27, 28, 29, 30, 31, 32, 33, 34, 35, 36, 37, 38, 39, 40, 41, 42, 43, 44, 45, 46, 47, 48, 49, 50, 51, 52, 53, 54, 55, 56, 57, 58, 59, 60, 61, 62, 63, 64, 65, 66, 67] (by decide +kernel) (by decide +kernel)
set_option maxRecDepth 20000 in
theorem gX1_length_X1_codewordLength : GoodIn wsX1_length (wsV RX1 37 RX1 yX1_codewordLength wsX1_codewordLength) := goodIn_app (goodIn_of _ (by decide +kernel)) ggX1_length_X1_codewordLength
theorem dX1_length_0 : decode cX1_length 0 = .ok (.iload_n 1, 1) := by decide +kernel
theorem dX1_length_1 : decode cX1_length 1 = .ok (.iload_n 2, 1) := by decide +kernel
theorem dX1_length_2 : decode cX1_length 2 = .ok (.invokestatic 29, 3) := by decide +kernel
theorem dX1_length_5 : decode cX1_length 5 = .ok (.lload_n 3, 1) := by decide +kernel
theorem dX1_length_6 : decode cX1_length 6 = .ok (.invokestatic 33, 3) := by decide +kernel
theorem dX1_length_9 : decode cX1_length 9 = .ok (.aload_n 0, 1) := by decide +kernel
theorem dX1_length_10 : decode cX1_length 10 = .ok (.iload_n 1, 1) := by decide +kernel
theorem dX1_length_11 : decode cX1_length 11 = .ok (.iload_n 2, 1) := by decide +kernel
theorem dX1_length_12 : decode cX1_length 12 = .ok (.lload_n 3, 1) := by decide +kernel
theorem dX1_length_13 : decode cX1_length 13 = .ok (.invokevirtual 37, 3) := by decide +kernel
theorem dX1_length_16 : decode cX1_length 16 = .ok (.lreturn, 1) := by decide +kernel
set_option maxRecDepth 20000 in
theorem ggX1_put_X1_requireCode : GoodIn wsX1_put wsX1_requireCode := goodIn_ca (goodIn_r _ [5, 6, 7, 8, 9, 4, 10, 11, 12, 13, 14, 15, 16, 17] (by decide +kernel) (by decide +kernel)) (goodIn_sub (fun _ h => List.mem_cons_of_mem _ (List.mem_append_right _ h)) (by decide +kernel))
set_option maxRecDepth 20000 in
theorem gX1_put_X1_requireCode : GoodIn wsX1_put (va_wsS RX1 29 yX1_requireCode wsX1_requireCode) := goodIn_app (goodIn_of _ (by decide +kernel)) ggX1_put_X1_requireCode
set_option maxRecDepth 20000 in
theorem ggX1_put_X1_requireNumber : GoodIn wsX1_put wsX1_requireNumber := goodIn_ca (goodIn_r _ [20, 6, 7, 21] (by decide +kernel) (by decide +kernel)) (goodIn_sub (fun _ h => List.mem_cons_of_mem _ (List.mem_append_right _ h)) (by decide +kernel))
set_option maxRecDepth 20000 in
theorem gX1_put_X1_requireNumber : GoodIn wsX1_put (va_wsS RX1 33 yX1_requireNumber wsX1_requireNumber) := goodIn_app (goodIn_of _ (by decide +kernel)) ggX1_put_X1_requireNumber
set_option maxRecDepth 20000 in
theorem ggX1_put_X1_appendIfRoom : GoodIn wsX1_put wsX1_appendIfRoom := goodIn_r _ [25, 1, 26, 27, 28, 4, 29, 30, 31, 32, 33, 34, 35, 36, 37, 38, 39, 40, 41, 42, 43, 44, 45, 46, 47, 48, 49, 50, 51, 52, 53, 54, 55, 56, 57, 58, 59, 60, 61, 62, 63, 64, 65, 66, 67, 68, 69, 70, 71, 72, 73, 74, 75, 76, 77, 78, 79, 80, 81, 82, 83, 84, 85, 86, 87, 88, 89, 90, 91, 92, 93, 94, 95, 96, 97, 98, 99, 100, 101, 102, 103, 104, 105, 106, 107, 108, 109, 110, 111, 112, 113, 114, 115, 116, 117, 118, 119, 120, 121, 122, 123, 124] (by decide +kernel) (by decide +kernel)
set_option maxRecDepth 20000 in
theorem gX1_put_X1_appendIfRoom : GoodIn wsX1_put (wsV RX1 41 RX1 yX1_appendIfRoom wsX1_appendIfRoom) := goodIn_app (goodIn_of _ (by decide +kernel)) ggX1_put_X1_appendIfRoom
theorem dX1_put_0 : decode cX1_put 0 = .ok (.iload_n 1, 1) := by decide +kernel
theorem dX1_put_1 : decode cX1_put 1 = .ok (.iload_n 2, 1) := by decide +kernel
theorem dX1_put_2 : decode cX1_put 2 = .ok (.invokestatic 29, 3) := by decide +kernel
theorem dX1_put_5 : decode cX1_put 5 = .ok (.lload_n 3, 1) := by decide +kernel
theorem dX1_put_6 : decode cX1_put 6 = .ok (.invokestatic 33, 3) := by decide +kernel
theorem dX1_put_9 : decode cX1_put 9 = .ok (.aload_n 0, 1) := by decide +kernel
theorem dX1_put_10 : decode cX1_put 10 = .ok (.iload_n 1, 1) := by decide +kernel
theorem dX1_put_11 : decode cX1_put 11 = .ok (.iload_n 2, 1) := by decide +kernel
theorem dX1_put_12 : decode cX1_put 12 = .ok (.lload_n 3, 1) := by decide +kernel
theorem dX1_put_13 : decode cX1_put 13 = .ok (.invokevirtual 41, 3) := by decide +kernel
theorem dX1_put_16 : decode cX1_put 16 = .ok (.ifCond .eq 13, 3) := by decide +kernel
theorem dX1_put_19 : decode cX1_put 19 = .ok (.aload_n 0, 1) := by decide +kernel
theorem dX1_put_20 : decode cX1_put 20 = .ok (.getfield 12, 3) := by decide +kernel
theorem dX1_put_23 : decode cX1_put 23 = .ok (.getfield 45, 3) := by decide +kernel
theorem dX1_put_26 : decode cX1_put 26 = .ok (.goto 4, 3) := by decide +kernel
theorem dX1_put_29 : decode cX1_put 29 = .ok (.iconst (-1), 1) := by decide +kernel
theorem dX1_put_30 : decode cX1_put 30 = .ok (.ireturn, 1) := by decide +kernel
set_option maxRecDepth 20000 in
theorem ggX1_take_X1_requireCode : GoodIn wsX1_take wsX1_requireCode := goodIn_ca (goodIn_r _ [4, 5, 6, 7, 8, 3, 9, 10, 11, 12, 13, 14, 15, 16] (by decide +kernel) (by decide +kernel)) (goodIn_sub (fun _ h => List.mem_cons_of_mem _ (List.mem_append_right _ h)) (by decide +kernel))
set_option maxRecDepth 20000 in
theorem gX1_take_X1_requireCode : GoodIn wsX1_take (va_wsS RX1 29 yX1_requireCode wsX1_requireCode) := goodIn_app (goodIn_of _ (by decide +kernel)) ggX1_take_X1_requireCode
set_option maxRecDepth 20000 in
theorem ggX1_take_X1_readNext : GoodIn wsX1_take wsX1_readNext := goodIn_r _ [20, 21, 22, 23, 24, 25, 3, 26, 27, 28, 29, 30, 31, 32, 33, 34, 35, 36, 37, 38, 39, 40, 41, 42, 43, 44, 45, 46, 47, 48, 49, 50, 51, 52, 53, 54, 55, 56, 57, 58, 59, 60, 61, 62, 63, 64, 65, 66, 67, 68, 69, 70, 71, 72, 73, 74, 75, 76, 77, 78, 79, 80, 81, 82, 83, 84, 85, 86, 87, 88, 89, 90, 91, 92, 93, 94, 95, 96, 97, 98, 99, 100, 101, 102, 103, 104, 105, 106, 107, 108, 109, 110, 111] (by decide +kernel) (by decide +kernel)
set_option maxRecDepth 20000 in
theorem gX1_take_X1_readNext : GoodIn wsX1_take (wsV RX1 48 RX1 yX1_readNext wsX1_readNext) := goodIn_app (goodIn_of _ (by decide +kernel)) ggX1_take_X1_readNext
theorem dX1_take_0 : decode cX1_take 0 = .ok (.iload_n 1, 1) := by decide +kernel
theorem dX1_take_1 : decode cX1_take 1 = .ok (.iload_n 2, 1) := by decide +kernel
theorem dX1_take_2 : decode cX1_take 2 = .ok (.invokestatic 29, 3) := by decide +kernel
theorem dX1_take_5 : decode cX1_take 5 = .ok (.aload_n 0, 1) := by decide +kernel
theorem dX1_take_6 : decode cX1_take 6 = .ok (.iload_n 1, 1) := by decide +kernel
theorem dX1_take_7 : decode cX1_take 7 = .ok (.iload_n 2, 1) := by decide +kernel
theorem dX1_take_8 : decode cX1_take 8 = .ok (.invokevirtual 48, 3) := by decide +kernel
theorem dX1_take_11 : decode cX1_take 11 = .ok (.lreturn, 1) := by decide +kernel
set_option maxRecDepth 20000 in
theorem ggX1_push_X0_room : GoodIn wsX1_push wsX0_room := goodIn_r _ [8, 9, 27, 28, 29, 30] (by decide +kernel) (by decide +kernel)
set_option maxRecDepth 20000 in
theorem gX1_push_X0_room : GoodIn wsX1_push (wsV RX1 59 RX0 yX0_room wsX0_room) := goodIn_app (goodIn_of _ (by decide +kernel)) ggX1_push_X0_room
set_option maxRecDepth 20000 in
theorem ggX1_push_X0_appendBits : GoodIn wsX1_push wsX0_appendBits := goodIn_r _ [13, 9, 14, 15, 16, 7, 17, 18, 19, 20, 21, 22, 27, 28, 29, 30] (by decide +kernel) (by decide +kernel)
set_option maxRecDepth 20000 in
theorem gX1_push_X0_appendBits : GoodIn wsX1_push (wsV RX1 63 RX0 yX0_appendBits wsX0_appendBits) := goodIn_app (goodIn_of _ (by decide +kernel)) ggX1_push_X0_appendBits
theorem dX1_push_0 : decode cX1_push 0 = .ok (.iload_n 3, 1) := by decide +kernel
theorem dX1_push_1 : decode cX1_push 1 = .ok (.iconst 1, 1) := by decide +kernel
theorem dX1_push_2 : decode cX1_push 2 = .ok (.if_icmp .lt 9, 3) := by decide +kernel
theorem dX1_push_5 : decode cX1_push 5 = .ok (.iload_n 3, 1) := by decide +kernel
theorem dX1_push_6 : decode cX1_push 6 = .ok (.bipush 64, 2) := by decide +kernel
theorem dX1_push_8 : decode cX1_push 8 = .ok (.if_icmp .le 13, 3) := by decide +kernel
theorem dX1_push_11 : decode cX1_push 11 = .ok (.new 52, 3) := by decide +kernel
theorem dX1_push_14 : decode cX1_push 14 = .ok (.dup, 1) := by decide +kernel
theorem dX1_push_15 : decode cX1_push 15 = .ok (.ldc 54, 2) := by decide +kernel
theorem dX1_push_17 : decode cX1_push 17 = .ok (.invokespecial 56, 3) := by decide +kernel
theorem dX1_push_20 : decode cX1_push 20 = .ok (.athrow, 1) := by decide +kernel
theorem dX1_push_21 : decode cX1_push 21 = .ok (.iload_n 3, 1) := by decide +kernel
theorem dX1_push_22 : decode cX1_push 22 = .ok (.aload_n 0, 1) := by decide +kernel
theorem dX1_push_23 : decode cX1_push 23 = .ok (.getfield 12, 3) := by decide +kernel
theorem dX1_push_26 : decode cX1_push 26 = .ok (.invokevirtual 59, 3) := by decide +kernel
theorem dX1_push_29 : decode cX1_push 29 = .ok (.if_icmp .le 5, 3) := by decide +kernel
theorem dX1_push_32 : decode cX1_push 32 = .ok (.iconst (-1), 1) := by decide +kernel
theorem dX1_push_33 : decode cX1_push 33 = .ok (.ireturn, 1) := by decide +kernel
theorem dX1_push_34 : decode cX1_push 34 = .ok (.aload_n 0, 1) := by decide +kernel
theorem dX1_push_35 : decode cX1_push 35 = .ok (.getfield 12, 3) := by decide +kernel
theorem dX1_push_38 : decode cX1_push 38 = .ok (.lload_n 1, 1) := by decide +kernel
theorem dX1_push_39 : decode cX1_push 39 = .ok (.bipush 64, 2) := by decide +kernel
theorem dX1_push_41 : decode cX1_push 41 = .ok (.iload_n 3, 1) := by decide +kernel
theorem dX1_push_42 : decode cX1_push 42 = .ok (.isub, 1) := by decide +kernel
theorem dX1_push_43 : decode cX1_push 43 = .ok (.lushr, 1) := by decide +kernel
theorem dX1_push_44 : decode cX1_push 44 = .ok (.iload_n 3, 1) := by decide +kernel
theorem dX1_push_45 : decode cX1_push 45 = .ok (.invokevirtual 63, 3) := by decide +kernel
theorem dX1_push_48 : decode cX1_push 48 = .ok (.aload_n 0, 1) := by decide +kernel
theorem dX1_push_49 : decode cX1_push 49 = .ok (.getfield 12, 3) := by decide +kernel
theorem dX1_push_52 : decode cX1_push 52 = .ok (.getfield 45, 3) := by decide +kernel
theorem dX1_push_55 : decode cX1_push 55 = .ok (.ireturn, 1) := by decide +kernel
set_option maxRecDepth 20000 in
theorem ggX1_bits_X0_bitAt : GoodIn wsX1_bits wsX0_bitAt := goodIn_r _ [6, 7, 8, 9, 10, 15, 16, 17, 18] (by decide +kernel) (by decide +kernel)
set_option maxRecDepth 20000 in
theorem gX1_bits_X0_bitAt : GoodIn wsX1_bits (wsV RX1 67 RX0 yX0_bitAt wsX0_bitAt) := goodIn_app (goodIn_of _ (by decide +kernel)) ggX1_bits_X0_bitAt
theorem dX1_bits_0 : decode cX1_bits 0 = .ok (.lconst 0, 1) := by decide +kernel
theorem dX1_bits_1 : decode cX1_bits 1 = .ok (.lstore_n 2, 1) := by decide +kernel
theorem dX1_bits_2 : decode cX1_bits 2 = .ok (.iconst 0, 1) := by decide +kernel
theorem dX1_bits_3 : decode cX1_bits 3 = .ok (.istore 4, 2) := by decide +kernel
theorem dX1_bits_5 : decode cX1_bits 5 = .ok (.iload 4, 2) := by decide +kernel
theorem dX1_bits_7 : decode cX1_bits 7 = .ok (.bipush 64, 2) := by decide +kernel
theorem dX1_bits_9 : decode cX1_bits 9 = .ok (.if_icmp .ge 28, 3) := by decide +kernel
theorem dX1_bits_12 : decode cX1_bits 12 = .ok (.lload_n 2, 1) := by decide +kernel
theorem dX1_bits_13 : decode cX1_bits 13 = .ok (.iconst 1, 1) := by decide +kernel
theorem dX1_bits_14 : decode cX1_bits 14 = .ok (.lshl, 1) := by decide +kernel
theorem dX1_bits_15 : decode cX1_bits 15 = .ok (.aload_n 0, 1) := by decide +kernel
theorem dX1_bits_16 : decode cX1_bits 16 = .ok (.getfield 12, 3) := by decide +kernel
theorem dX1_bits_19 : decode cX1_bits 19 = .ok (.iload_n 1, 1) := by decide +kernel
theorem dX1_bits_20 : decode cX1_bits 20 = .ok (.i2l, 1) := by decide +kernel
theorem dX1_bits_21 : decode cX1_bits 21 = .ok (.iload 4, 2) := by decide +kernel
theorem dX1_bits_23 : decode cX1_bits 23 = .ok (.i2l, 1) := by decide +kernel
theorem dX1_bits_24 : decode cX1_bits 24 = .ok (.ladd, 1) := by decide +kernel
theorem dX1_bits_25 : decode cX1_bits 25 = .ok (.invokevirtual 67, 3) := by decide +kernel
theorem dX1_bits_28 : decode cX1_bits 28 = .ok (.i2l, 1) := by decide +kernel
theorem dX1_bits_29 : decode cX1_bits 29 = .ok (.lor, 1) := by decide +kernel
theorem dX1_bits_30 : decode cX1_bits 30 = .ok (.lstore_n 2, 1) := by decide +kernel
theorem dX1_bits_31 : decode cX1_bits 31 = .ok (.iinc 4 1, 3) := by decide +kernel
theorem dX1_bits_34 : decode cX1_bits 34 = .ok (.goto (-29), 3) := by decide +kernel
theorem dX1_bits_37 : decode cX1_bits 37 = .ok (.lload_n 2, 1) := by decide +kernel
theorem dX1_bits_38 : decode cX1_bits 38 = .ok (.lreturn, 1) := by decide +kernel
theorem dX1_size_0 : decode cX1_size 0 = .ok (.aload_n 0, 1) := by decide +kernel
theorem dX1_size_1 : decode cX1_size 1 = .ok (.getfield 12, 3) := by decide +kernel
theorem dX1_size_4 : decode cX1_size 4 = .ok (.getfield 45, 3) := by decide +kernel
theorem dX1_size_7 : decode cX1_size 7 = .ok (.ireturn, 1) := by decide +kernel
theorem dX1_place_0 : decode cX1_place 0 = .ok (.aload_n 0, 1) := by decide +kernel
theorem dX1_place_1 : decode cX1_place 1 = .ok (.getfield 12, 3) := by decide +kernel
theorem dX1_place_4 : decode cX1_place 4 = .ok (.getfield 71, 3) := by decide +kernel
theorem dX1_place_7 : decode cX1_place 7 = .ok (.ireturn, 1) := by decide +kernel
theorem dX1_seek_0 : decode cX1_seek 0 = .ok (.iload_n 1, 1) := by decide +kernel
theorem dX1_seek_1 : decode cX1_seek 1 = .ok (.ifCond .lt 14, 3) := by decide +kernel
theorem dX1_seek_4 : decode cX1_seek 4 = .ok (.iload_n 1, 1) := by decide +kernel
theorem dX1_seek_5 : decode cX1_seek 5 = .ok (.aload_n 0, 1) := by decide +kernel
theorem dX1_seek_6 : decode cX1_seek 6 = .ok (.getfield 12, 3) := by decide +kernel
theorem dX1_seek_9 : decode cX1_seek 9 = .ok (.getfield 45, 3) := by decide +kernel
theorem dX1_seek_12 : decode cX1_seek 12 = .ok (.if_icmp .le 13, 3) := by decide +kernel
theorem dX1_seek_15 : decode cX1_seek 15 = .ok (.new 74, 3) := by decide +kernel
theorem dX1_seek_18 : decode cX1_seek 18 = .ok (.dup, 1) := by decide +kernel
theorem dX1_seek_19 : decode cX1_seek 19 = .ok (.ldc 76, 2) := by decide +kernel
theorem dX1_seek_21 : decode cX1_seek 21 = .ok (.invokespecial 78, 3) := by decide +kernel
theorem dX1_seek_24 : decode cX1_seek 24 = .ok (.athrow, 1) := by decide +kernel
theorem dX1_seek_25 : decode cX1_seek 25 = .ok (.aload_n 0, 1) := by decide +kernel
theorem dX1_seek_26 : decode cX1_seek 26 = .ok (.getfield 12, 3) := by decide +kernel
theorem dX1_seek_29 : decode cX1_seek 29 = .ok (.iload_n 1, 1) := by decide +kernel
theorem dX1_seek_30 : decode cX1_seek 30 = .ok (.putfield 71, 3) := by decide +kernel
theorem dX1_seek_33 : decode cX1_seek 33 = .ok (.return_, 1) := by decide +kernel
set_option maxRecDepth 20000 in
theorem ggX1_wipe_X0_makeEmpty : GoodIn wsX1_wipe wsX0_makeEmpty := goodIn_r _ [6, 7, 8, 9, 10, 11, 12, 13, 18, 19, 20, 21] (by decide +kernel) (by decide +kernel)
set_option maxRecDepth 20000 in
theorem gX1_wipe_X0_makeEmpty : GoodIn wsX1_wipe (wsV RX1 79 RX0 yX0_makeEmpty wsX0_makeEmpty) := goodIn_app (goodIn_of _ (by decide +kernel)) ggX1_wipe_X0_makeEmpty
theorem dX1_wipe_0 : decode cX1_wipe 0 = .ok (.aload_n 0, 1) := by decide +kernel
theorem dX1_wipe_1 : decode cX1_wipe 1 = .ok (.getfield 12, 3) := by decide +kernel
theorem dX1_wipe_4 : decode cX1_wipe 4 = .ok (.getfield 45, 3) := by decide +kernel
theorem dX1_wipe_7 : decode cX1_wipe 7 = .ok (.istore_n 1, 1) := by decide +kernel
theorem dX1_wipe_8 : decode cX1_wipe 8 = .ok (.aload_n 0, 1) := by decide +kernel
theorem dX1_wipe_9 : decode cX1_wipe 9 = .ok (.getfield 12, 3) := by decide +kernel
theorem dX1_wipe_12 : decode cX1_wipe 12 = .ok (.invokevirtual 79, 3) := by decide +kernel
theorem dX1_wipe_15 : decode cX1_wipe 15 = .ok (.iload_n 1, 1) := by decide +kernel
theorem dX1_wipe_16 : decode cX1_wipe 16 = .ok (.ireturn, 1) := by decide +kernel
set_option maxRecDepth 20000 in
theorem ggX1_add_X1_requireNumber : GoodIn wsX1_add wsX1_requireNumber := goodIn_ca (goodIn_r _ [6, 7, 8, 9] (by decide +kernel) (by decide +kernel)) (goodIn_sub (fun _ h => List.mem_cons_of_mem _ (List.mem_append_right _ h)) (by decide +kernel))
set_option maxRecDepth 20000 in
theorem gX1_add_X1_requireNumber : GoodIn wsX1_add (va_wsS RX1 33 yX1_requireNumber wsX1_requireNumber) := goodIn_app (goodIn_of _ (by decide +kernel)) ggX1_add_X1_requireNumber
theorem dX1_add_0 : decode cX1_add 0 = .ok (.lload_n 1, 1) := by decide +kernel
theorem dX1_add_1 : decode cX1_add 1 = .ok (.invokestatic 33, 3) := by decide +kernel
theorem dX1_add_4 : decode cX1_add 4 = .ok (.aload_n 0, 1) := by decide +kernel
theorem dX1_add_5 : decode cX1_add 5 = .ok (.getfield 20, 3) := by decide +kernel
theorem dX1_add_8 : decode cX1_add 8 = .ok (.bipush 100, 2) := by decide +kernel
theorem dX1_add_10 : decode cX1_add 10 = .ok (.if_icmp .lt 5, 3) := by decide +kernel
theorem dX1_add_13 : decode cX1_add 13 = .ok (.iconst (-1), 1) := by decide +kernel
theorem dX1_add_14 : decode cX1_add 14 = .ok (.ireturn, 1) := by decide +kernel
theorem dX1_add_15 : decode cX1_add 15 = .ok (.aload_n 0, 1) := by decide +kernel
theorem dX1_add_16 : decode cX1_add 16 = .ok (.getfield 16, 3) := by decide +kernel
theorem dX1_add_19 : decode cX1_add 19 = .ok (.aload_n 0, 1) := by decide +kernel
theorem dX1_add_20 : decode cX1_add 20 = .ok (.getfield 20, 3) := by decide +kernel
theorem dX1_add_23 : decode cX1_add 23 = .ok (.lload_n 1, 1) := by decide +kernel
theorem dX1_add_24 : decode cX1_add 24 = .ok (.lastore, 1) := by decide +kernel
theorem dX1_add_25 : decode cX1_add 25 = .ok (.aload_n 0, 1) := by decide +kernel
theorem dX1_add_26 : decode cX1_add 26 = .ok (.dup, 1) := by decide +kernel
theorem dX1_add_27 : decode cX1_add 27 = .ok (.getfield 20, 3) := by decide +kernel
theorem dX1_add_30 : decode cX1_add 30 = .ok (.iconst 1, 1) := by decide +kernel
theorem dX1_add_31 : decode cX1_add 31 = .ok (.iadd, 1) := by decide +kernel
theorem dX1_add_32 : decode cX1_add 32 = .ok (.putfield 20, 3) := by decide +kernel
theorem dX1_add_35 : decode cX1_add 35 = .ok (.aload_n 0, 1) := by decide +kernel
theorem dX1_add_36 : decode cX1_add 36 = .ok (.getfield 20, 3) := by decide +kernel
theorem dX1_add_39 : decode cX1_add 39 = .ok (.ireturn, 1) := by decide +kernel
theorem dX1_get_0 : decode cX1_get 0 = .ok (.iload_n 1, 1) := by decide +kernel
theorem dX1_get_1 : decode cX1_get 1 = .ok (.ifCond .lt 11, 3) := by decide +kernel
theorem dX1_get_4 : decode cX1_get 4 = .ok (.iload_n 1, 1) := by decide +kernel
theorem dX1_get_5 : decode cX1_get 5 = .ok (.aload_n 0, 1) := by decide +kernel
theorem dX1_get_6 : decode cX1_get 6 = .ok (.getfield 20, 3) := by decide +kernel
theorem dX1_get_9 : decode cX1_get 9 = .ok (.if_icmp .lt 13, 3) := by decide +kernel
theorem dX1_get_12 : decode cX1_get 12 = .ok (.new 74, 3) := by decide +kernel
theorem dX1_get_15 : decode cX1_get 15 = .ok (.dup, 1) := by decide +kernel
theorem dX1_get_16 : decode cX1_get 16 = .ok (.ldc 82, 2) := by decide +kernel
theorem dX1_get_18 : decode cX1_get 18 = .ok (.invokespecial 78, 3) := by decide +kernel
theorem dX1_get_21 : decode cX1_get 21 = .ok (.athrow, 1) := by decide +kernel
theorem dX1_get_22 : decode cX1_get 22 = .ok (.aload_n 0, 1) := by decide +kernel
theorem dX1_get_23 : decode cX1_get 23 = .ok (.getfield 16, 3) := by decide +kernel
theorem dX1_get_26 : decode cX1_get 26 = .ok (.iload_n 1, 1) := by decide +kernel
theorem dX1_get_27 : decode cX1_get 27 = .ok (.laload, 1) := by decide +kernel
theorem dX1_get_28 : decode cX1_get 28 = .ok (.lreturn, 1) := by decide +kernel
theorem dX1_clear_0 : decode cX1_clear 0 = .ok (.aload_n 0, 1) := by decide +kernel
theorem dX1_clear_1 : decode cX1_clear 1 = .ok (.getfield 20, 3) := by decide +kernel
theorem dX1_clear_4 : decode cX1_clear 4 = .ok (.istore_n 1, 1) := by decide +kernel
theorem dX1_clear_5 : decode cX1_clear 5 = .ok (.aload_n 0, 1) := by decide +kernel
theorem dX1_clear_6 : decode cX1_clear 6 = .ok (.iconst 0, 1) := by decide +kernel
theorem dX1_clear_7 : decode cX1_clear 7 = .ok (.putfield 20, 3) := by decide +kernel
theorem dX1_clear_10 : decode cX1_clear 10 = .ok (.iload_n 1, 1) := by decide +kernel
theorem dX1_clear_11 : decode cX1_clear 11 = .ok (.ireturn, 1) := by decide +kernel
set_option maxRecDepth 20000 in
theorem ggX1_total_X1_requireCode : GoodIn wsX1_total wsX1_requireCode := goodIn_ca (goodIn_r _ [4, 5, 6, 7, 8, 3, 9, 10, 11, 12, 13, 14, 15, 16] (by decide +kernel) (by decide +kernel)) (goodIn_sub (fun _ h => List.mem_cons_of_mem _ (List.mem_append_right _ h)) (by decide +kernel))
set_option maxRecDepth 20000 in
theorem gX1_total_X1_requireCode : GoodIn wsX1_total (va_wsS RX1 29 yX1_requireCode wsX1_requireCode) := goodIn_app (goodIn_of _ (by decide +kernel)) ggX1_total_X1_requireCode
set_option maxRecDepth 20000 in
theorem ggX1_total_X1_listLength : GoodIn wsX1_total wsX1_listLength := goodIn_r _ [20, 21, 22, 23, 24, 25, 26, 3, 27, 28, 29, 30, 31, 32, 33, 34, 35, 36, 37, 38, 39, 40, 41, 42, 43, 44, 45, 46, 47, 48, 49, 50, 51, 52, 53, 54, 55, 56, 57, 58, 59, 60, 61, 62, 63, 64, 65, 66, 67, 68, 69, 70] (by decide +kernel) (by decide +kernel)
set_option maxRecDepth 20000 in
theorem gX1_total_X1_listLength : GoodIn wsX1_total (wsV RX1 84 RX1 yX1_listLength wsX1_listLength) := goodIn_app (goodIn_of _ (by decide +kernel)) ggX1_total_X1_listLength
theorem dX1_total_0 : decode cX1_total 0 = .ok (.iload_n 1, 1) := by decide +kernel
theorem dX1_total_1 : decode cX1_total 1 = .ok (.iload_n 2, 1) := by decide +kernel
theorem dX1_total_2 : decode cX1_total 2 = .ok (.invokestatic 29, 3) := by decide +kernel
theorem dX1_total_5 : decode cX1_total 5 = .ok (.aload_n 0, 1) := by decide +kernel
theorem dX1_total_6 : decode cX1_total 6 = .ok (.iload_n 1, 1) := by decide +kernel
theorem dX1_total_7 : decode cX1_total 7 = .ok (.iload_n 2, 1) := by decide +kernel
theorem dX1_total_8 : decode cX1_total 8 = .ok (.invokevirtual 84, 3) := by decide +kernel
theorem dX1_total_11 : decode cX1_total 11 = .ok (.lreturn, 1) := by decide +kernel
set_option maxRecDepth 20000 in
theorem ggX1_best_X1_isCode : GoodIn wsX1_best wsX1_isCode := goodIn_r _ [6, 7, 8, 5, 9, 10, 11, 12, 13] (by decide +kernel) (by decide +kernel)
set_option maxRecDepth 20000 in
theorem gX1_best_X1_isCode : GoodIn wsX1_best (va_wsS RX1 87 yX1_isCode wsX1_isCode) := goodIn_app (goodIn_of _ (by decide +kernel)) ggX1_best_X1_isCode
set_option maxRecDepth 20000 in
theorem ggX1_best_X1_leastParameter : GoodIn wsX1_best wsX1_leastParameter := goodIn_r _ [9] (by decide +kernel) (by decide +kernel)
set_option maxRecDepth 20000 in
theorem gX1_best_X1_leastParameter : GoodIn wsX1_best (va_wsS RX1 93 yX1_leastParameter wsX1_leastParameter) := goodIn_app (goodIn_of _ (by decide +kernel)) ggX1_best_X1_leastParameter
set_option maxRecDepth 20000 in
theorem ggX1_best_X1_listLength : GoodIn wsX1_best wsX1_listLength := goodIn_r _ [17, 18, 19, 20, 21, 22, 23, 5, 24, 25, 26, 27, 28, 29, 30, 31, 32, 33, 34, 35, 36, 37, 38, 39, 40, 41, 42, 43, 44, 45, 46, 47, 48, 49, 50, 51, 52, 53, 54, 55, 56, 57, 58, 59, 60, 61, 62, 63, 64, 65, 66, 67] (by decide +kernel) (by decide +kernel)
set_option maxRecDepth 20000 in
theorem gX1_best_X1_listLength : GoodIn wsX1_best (wsV RX1 84 RX1 yX1_listLength wsX1_listLength) := goodIn_app (goodIn_of _ (by decide +kernel)) ggX1_best_X1_listLength
theorem dX1_best_0 : decode cX1_best 0 = .ok (.iload_n 1, 1) := by decide +kernel
theorem dX1_best_1 : decode cX1_best 1 = .ok (.iconst 5, 1) := by decide +kernel
theorem dX1_best_2 : decode cX1_best 2 = .ok (.if_icmp .lt 18, 3) := by decide +kernel
theorem dX1_best_5 : decode cX1_best 5 = .ok (.iload_n 2, 1) := by decide +kernel
theorem dX1_best_6 : decode cX1_best 6 = .ok (.sipush 500, 3) := by decide +kernel
theorem dX1_best_9 : decode cX1_best 9 = .ok (.if_icmp .gt 11, 3) := by decide +kernel
theorem dX1_best_12 : decode cX1_best 12 = .ok (.iload_n 1, 1) := by decide +kernel
theorem dX1_best_13 : decode cX1_best 13 = .ok (.iload_n 2, 1) := by decide +kernel
theorem dX1_best_14 : decode cX1_best 14 = .ok (.invokestatic 87, 3) := by decide +kernel
theorem dX1_best_17 : decode cX1_best 17 = .ok (.ifCond .ne 13, 3) := by decide +kernel
theorem dX1_best_20 : decode cX1_best 20 = .ok (.new 52, 3) := by decide +kernel
theorem dX1_best_23 : decode cX1_best 23 = .ok (.dup, 1) := by decide +kernel
theorem dX1_best_24 : decode cX1_best 24 = .ok (.ldc 91, 2) := by decide +kernel
theorem dX1_best_26 : decode cX1_best 26 = .ok (.invokespecial 56, 3) := by decide +kernel
theorem dX1_best_29 : decode cX1_best 29 = .ok (.athrow, 1) := by decide +kernel
theorem dX1_best_30 : decode cX1_best 30 = .ok (.iload_n 1, 1) := by decide +kernel
theorem dX1_best_31 : decode cX1_best 31 = .ok (.invokestatic 93, 3) := by decide +kernel
theorem dX1_best_34 : decode cX1_best 34 = .ok (.istore_n 3, 1) := by decide +kernel
theorem dX1_best_35 : decode cX1_best 35 = .ok (.aload_n 0, 1) := by decide +kernel
theorem dX1_best_36 : decode cX1_best 36 = .ok (.iload_n 1, 1) := by decide +kernel
theorem dX1_best_37 : decode cX1_best 37 = .ok (.iload_n 3, 1) := by decide +kernel
theorem dX1_best_38 : decode cX1_best 38 = .ok (.invokevirtual 84, 3) := by decide +kernel
theorem dX1_best_41 : decode cX1_best 41 = .ok (.lstore 4, 2) := by decide +kernel
theorem dX1_best_43 : decode cX1_best 43 = .ok (.iload_n 3, 1) := by decide +kernel
theorem dX1_best_44 : decode cX1_best 44 = .ok (.iconst 1, 1) := by decide +kernel
theorem dX1_best_45 : decode cX1_best 45 = .ok (.iadd, 1) := by decide +kernel
theorem dX1_best_46 : decode cX1_best 46 = .ok (.istore 6, 2) := by decide +kernel
theorem dX1_best_48 : decode cX1_best 48 = .ok (.iload 6, 2) := by decide +kernel
theorem dX1_best_50 : decode cX1_best 50 = .ok (.iload_n 2, 1) := by decide +kernel
theorem dX1_best_51 : decode cX1_best 51 = .ok (.if_icmp .gt 33, 3) := by decide +kernel
theorem dX1_best_54 : decode cX1_best 54 = .ok (.aload_n 0, 1) := by decide +kernel
theorem dX1_best_55 : decode cX1_best 55 = .ok (.iload_n 1, 1) := by decide +kernel
theorem dX1_best_56 : decode cX1_best 56 = .ok (.iload 6, 2) := by decide +kernel
theorem dX1_best_58 : decode cX1_best 58 = .ok (.invokevirtual 84, 3) := by decide +kernel
theorem dX1_best_61 : decode cX1_best 61 = .ok (.lstore 7, 2) := by decide +kernel
theorem dX1_best_63 : decode cX1_best 63 = .ok (.lload 7, 2) := by decide +kernel
theorem dX1_best_65 : decode cX1_best 65 = .ok (.lload 4, 2) := by decide +kernel
theorem dX1_best_67 : decode cX1_best 67 = .ok (.lcmp, 1) := by decide +kernel
theorem dX1_best_68 : decode cX1_best 68 = .ok (.ifCond .ge 10, 3) := by decide +kernel
theorem dX1_best_71 : decode cX1_best 71 = .ok (.lload 7, 2) := by decide +kernel
theorem dX1_best_73 : decode cX1_best 73 = .ok (.lstore 4, 2) := by decide +kernel
theorem dX1_best_75 : decode cX1_best 75 = .ok (.iload 6, 2) := by decide +kernel
theorem dX1_best_77 : decode cX1_best 77 = .ok (.istore_n 3, 1) := by decide +kernel
theorem dX1_best_78 : decode cX1_best 78 = .ok (.iinc 6 1, 3) := by decide +kernel
theorem dX1_best_81 : decode cX1_best 81 = .ok (.goto (-33), 3) := by decide +kernel
theorem dX1_best_84 : decode cX1_best 84 = .ok (.iload_n 3, 1) := by decide +kernel
theorem dX1_best_85 : decode cX1_best 85 = .ok (.ireturn, 1) := by decide +kernel
set_option maxRecDepth 20000 in
theorem ggX1_putAll_X1_requireCode : GoodIn wsX1_putAll wsX1_requireCode := goodIn_ca (goodIn_r _ [6, 7, 8, 9, 10, 5, 11, 12, 13, 14, 15, 16, 17, 18] (by decide +kernel) (by decide +kernel)) (goodIn_sub (fun _ h => List.mem_cons_of_mem _ (List.mem_append_right _ h)) (by decide +kernel))
set_option maxRecDepth 20000 in
theorem gX1_putAll_X1_requireCode : GoodIn wsX1_putAll (va_wsS RX1 29 yX1_requireCode wsX1_requireCode) := goodIn_app (goodIn_of _ (by decide +kernel)) ggX1_putAll_X1_requireCode
set_option maxRecDepth 20000 in
theorem ggX1_putAll_X1_appendIfRoom : GoodIn wsX1_putAll wsX1_appendIfRoom := goodIn_r _ [22, 23, 24, 25, 26, 5, 27, 28, 29, 30, 31, 32, 33, 34, 35, 36, 37, 38, 39, 40, 41, 42, 43, 44, 45, 46, 47, 48, 49, 50, 51, 52, 53, 54, 55, 56, 57, 58, 59, 60, 61, 62, 63, 64, 65, 66, 67, 68, 69, 70, 71, 72, 73, 74, 75, 76, 77, 78, 79, 80, 81, 82, 83, 84, 85, 86, 87, 88, 89, 90, 91, 92, 93, 94, 95, 96, 97, 98, 99, 100, 101, 102, 103, 104, 105, 106, 107, 108, 109, 110, 111, 112, 113, 114, 115, 116, 117, 118, 119, 120, 121, 122] (by decide +kernel) (by decide +kernel)
set_option maxRecDepth 20000 in
theorem gX1_putAll_X1_appendIfRoom : GoodIn wsX1_putAll (wsV RX1 41 RX1 yX1_appendIfRoom wsX1_appendIfRoom) := goodIn_app (goodIn_of _ (by decide +kernel)) ggX1_putAll_X1_appendIfRoom
theorem dX1_putAll_0 : decode cX1_putAll 0 = .ok (.iload_n 1, 1) := by decide +kernel
theorem dX1_putAll_1 : decode cX1_putAll 1 = .ok (.iload_n 2, 1) := by decide +kernel
theorem dX1_putAll_2 : decode cX1_putAll 2 = .ok (.invokestatic 29, 3) := by decide +kernel
theorem dX1_putAll_5 : decode cX1_putAll 5 = .ok (.iconst 0, 1) := by decide +kernel
theorem dX1_putAll_6 : decode cX1_putAll 6 = .ok (.istore_n 3, 1) := by decide +kernel
theorem dX1_putAll_7 : decode cX1_putAll 7 = .ok (.iload_n 3, 1) := by decide +kernel
theorem dX1_putAll_8 : decode cX1_putAll 8 = .ok (.aload_n 0, 1) := by decide +kernel
theorem dX1_putAll_9 : decode cX1_putAll 9 = .ok (.getfield 20, 3) := by decide +kernel
theorem dX1_putAll_12 : decode cX1_putAll 12 = .ok (.if_icmp .ge 26, 3) := by decide +kernel
theorem dX1_putAll_15 : decode cX1_putAll 15 = .ok (.aload_n 0, 1) := by decide +kernel
theorem dX1_putAll_16 : decode cX1_putAll 16 = .ok (.iload_n 1, 1) := by decide +kernel
theorem dX1_putAll_17 : decode cX1_putAll 17 = .ok (.iload_n 2, 1) := by decide +kernel
theorem dX1_putAll_18 : decode cX1_putAll 18 = .ok (.aload_n 0, 1) := by decide +kernel
theorem dX1_putAll_19 : decode cX1_putAll 19 = .ok (.getfield 16, 3) := by decide +kernel
theorem dX1_putAll_22 : decode cX1_putAll 22 = .ok (.iload_n 3, 1) := by decide +kernel
theorem dX1_putAll_23 : decode cX1_putAll 23 = .ok (.laload, 1) := by decide +kernel
theorem dX1_putAll_24 : decode cX1_putAll 24 = .ok (.invokevirtual 41, 3) := by decide +kernel
theorem dX1_putAll_27 : decode cX1_putAll 27 = .ok (.ifCond .ne 5, 3) := by decide +kernel
theorem dX1_putAll_30 : decode cX1_putAll 30 = .ok (.iload_n 3, 1) := by decide +kernel
theorem dX1_putAll_31 : decode cX1_putAll 31 = .ok (.ireturn, 1) := by decide +kernel
theorem dX1_putAll_32 : decode cX1_putAll 32 = .ok (.iinc 3 1, 3) := by decide +kernel
theorem dX1_putAll_35 : decode cX1_putAll 35 = .ok (.goto (-28), 3) := by decide +kernel
theorem dX1_putAll_38 : decode cX1_putAll 38 = .ok (.aload_n 0, 1) := by decide +kernel
theorem dX1_putAll_39 : decode cX1_putAll 39 = .ok (.getfield 20, 3) := by decide +kernel
theorem dX1_putAll_42 : decode cX1_putAll 42 = .ok (.ireturn, 1) := by decide +kernel
set_option maxRecDepth 20000 in
theorem ggX1_takeAll_X1_requireCode : GoodIn wsX1_takeAll wsX1_requireCode := goodIn_ca (goodIn_r _ [7, 8, 9, 10, 11, 6, 12, 13, 14, 15, 16, 17, 18, 19] (by decide +kernel) (by decide +kernel)) (goodIn_sub (fun _ h => List.mem_cons_of_mem _ (List.mem_append_right _ h)) (by decide +kernel))
set_option maxRecDepth 20000 in
theorem gX1_takeAll_X1_requireCode : GoodIn wsX1_takeAll (va_wsS RX1 29 yX1_requireCode wsX1_requireCode) := goodIn_app (goodIn_of _ (by decide +kernel)) ggX1_takeAll_X1_requireCode
set_option maxRecDepth 20000 in
theorem ggX1_takeAll_X1_readNext : GoodIn wsX1_takeAll wsX1_readNext := goodIn_r _ [23, 24, 2, 25, 26, 27, 6, 28, 29, 30, 31, 32, 33, 34, 35, 36, 37, 38, 39, 40, 41, 42, 43, 44, 45, 46, 47, 48, 49, 50, 51, 52, 53, 54, 55, 56, 57, 58, 59, 60, 61, 62, 63, 64, 65, 66, 67, 68, 69, 70, 71, 72, 73, 74, 75, 76, 77, 78, 79, 80, 81, 82, 83, 84, 85, 86, 87, 88, 89, 90, 91, 92, 93, 94, 95, 96, 97, 98, 99, 100, 101, 102, 103, 104, 105, 106, 107, 108, 109, 110, 111, 112, 113] (by decide +kernel) (by decide +kernel)
set_option maxRecDepth 20000 in
theorem gX1_takeAll_X1_readNext : GoodIn wsX1_takeAll (wsV RX1 48 RX1 yX1_readNext wsX1_readNext) := goodIn_app (goodIn_of _ (by decide +kernel)) ggX1_takeAll_X1_readNext
theorem dX1_takeAll_0 : decode cX1_takeAll 0 = .ok (.iload_n 1, 1) := by decide +kernel
theorem dX1_takeAll_1 : decode cX1_takeAll 1 = .ok (.iload_n 2, 1) := by decide +kernel
theorem dX1_takeAll_2 : decode cX1_takeAll 2 = .ok (.invokestatic 29, 3) := by decide +kernel
theorem dX1_takeAll_5 : decode cX1_takeAll 5 = .ok (.aload_n 0, 1) := by decide +kernel
theorem dX1_takeAll_6 : decode cX1_takeAll 6 = .ok (.iconst 0, 1) := by decide +kernel
theorem dX1_takeAll_7 : decode cX1_takeAll 7 = .ok (.putfield 20, 3) := by decide +kernel
theorem dX1_takeAll_10 : decode cX1_takeAll 10 = .ok (.iconst 0, 1) := by decide +kernel
theorem dX1_takeAll_11 : decode cX1_takeAll 11 = .ok (.istore_n 3, 1) := by decide +kernel
theorem dX1_takeAll_12 : decode cX1_takeAll 12 = .ok (.iload_n 3, 1) := by decide +kernel
theorem dX1_takeAll_13 : decode cX1_takeAll 13 = .ok (.bipush 100, 2) := by decide +kernel
theorem dX1_takeAll_15 : decode cX1_takeAll 15 = .ok (.if_icmp .ge 44, 3) := by decide +kernel
theorem dX1_takeAll_18 : decode cX1_takeAll 18 = .ok (.aload_n 0, 1) := by decide +kernel
theorem dX1_takeAll_19 : decode cX1_takeAll 19 = .ok (.iload_n 1, 1) := by decide +kernel
theorem dX1_takeAll_20 : decode cX1_takeAll 20 = .ok (.iload_n 2, 1) := by decide +kernel
theorem dX1_takeAll_21 : decode cX1_takeAll 21 = .ok (.invokevirtual 48, 3) := by decide +kernel
theorem dX1_takeAll_24 : decode cX1_takeAll 24 = .ok (.lstore 4, 2) := by decide +kernel
theorem dX1_takeAll_26 : decode cX1_takeAll 26 = .ok (.lload 4, 2) := by decide +kernel
theorem dX1_takeAll_28 : decode cX1_takeAll 28 = .ok (.ldc2_w 97, 3) := by decide +kernel
theorem dX1_takeAll_31 : decode cX1_takeAll 31 = .ok (.lcmp, 1) := by decide +kernel
theorem dX1_takeAll_32 : decode cX1_takeAll 32 = .ok (.ifCond .ne 6, 3) := by decide +kernel
theorem dX1_takeAll_35 : decode cX1_takeAll 35 = .ok (.goto 24, 3) := by decide +kernel
theorem dX1_takeAll_38 : decode cX1_takeAll 38 = .ok (.aload_n 0, 1) := by decide +kernel
theorem dX1_takeAll_39 : decode cX1_takeAll 39 = .ok (.getfield 16, 3) := by decide +kernel
theorem dX1_takeAll_42 : decode cX1_takeAll 42 = .ok (.iload_n 3, 1) := by decide +kernel
theorem dX1_takeAll_43 : decode cX1_takeAll 43 = .ok (.lload 4, 2) := by decide +kernel
theorem dX1_takeAll_45 : decode cX1_takeAll 45 = .ok (.lastore, 1) := by decide +kernel
theorem dX1_takeAll_46 : decode cX1_takeAll 46 = .ok (.aload_n 0, 1) := by decide +kernel
theorem dX1_takeAll_47 : decode cX1_takeAll 47 = .ok (.iload_n 3, 1) := by decide +kernel
theorem dX1_takeAll_48 : decode cX1_takeAll 48 = .ok (.iconst 1, 1) := by decide +kernel
theorem dX1_takeAll_49 : decode cX1_takeAll 49 = .ok (.iadd, 1) := by decide +kernel
theorem dX1_takeAll_50 : decode cX1_takeAll 50 = .ok (.putfield 20, 3) := by decide +kernel
theorem dX1_takeAll_53 : decode cX1_takeAll 53 = .ok (.iinc 3 1, 3) := by decide +kernel
theorem dX1_takeAll_56 : decode cX1_takeAll 56 = .ok (.goto (-44), 3) := by decide +kernel
theorem dX1_takeAll_59 : decode cX1_takeAll 59 = .ok (.aload_n 0, 1) := by decide +kernel
theorem dX1_takeAll_60 : decode cX1_takeAll 60 = .ok (.getfield 20, 3) := by decide +kernel
theorem dX1_takeAll_63 : decode cX1_takeAll 63 = .ok (.ireturn, 1) := by decide +kernel
set_option maxRecDepth 20000 in
theorem ggX1_count_X1_requireCode : GoodIn wsX1_count wsX1_requireCode := goodIn_ca (goodIn_r _ [4, 5, 6, 7, 8, 3, 9, 10, 11, 12, 13, 14, 15, 16] (by decide +kernel) (by decide +kernel)) (goodIn_sub (fun _ h => List.mem_cons_of_mem _ (List.mem_append_right _ h)) (by decide +kernel))
set_option maxRecDepth 20000 in
theorem gX1_count_X1_requireCode : GoodIn wsX1_count (va_wsS RX1 29 yX1_requireCode wsX1_requireCode) := goodIn_app (goodIn_of _ (by decide +kernel)) ggX1_count_X1_requireCode
set_option maxRecDepth 20000 in
theorem ggX1_count_X1_requireLength : GoodIn wsX1_count wsX1_requireLength := goodIn_ca (goodIn_r _ [19, 5, 6] (by decide +kernel) (by decide +kernel)) (goodIn_sub (fun _ h => List.mem_cons_of_mem _ (List.mem_append_right _ h)) (by decide +kernel))
set_option maxRecDepth 20000 in
theorem gX1_count_X1_requireLength : GoodIn wsX1_count (va_wsS RX1 99 yX1_requireLength wsX1_requireLength) := goodIn_app (goodIn_of _ (by decide +kernel)) ggX1_count_X1_requireLength
set_option maxRecDepth 20000 in
theorem ggX1_count_X1_leastReaching : GoodIn wsX1_count wsX1_leastReaching := goodIn_r _ [23, 24, 25, 26, 27, 28, 3, 29, 30, 31, 32, 33, 34, 35, 36, 37, 38, 39, 40, 41, 42, 43, 44, 45, 46, 47, 48, 49, 50, 51, 52, 53, 54, 55, 56, 57, 58, 59, 60, 61, 62, 63, 64, 65, 66, 67, 68, 69, 70, 71, 72] (by decide +kernel) (by decide +kernel)
set_option maxRecDepth 20000 in
theorem gX1_count_X1_leastReaching : GoodIn wsX1_count (wsV RX1 102 RX1 yX1_leastReaching wsX1_leastReaching) := goodIn_app (goodIn_of _ (by decide +kernel)) ggX1_count_X1_leastReaching
theorem dX1_count_0 : decode cX1_count 0 = .ok (.iload_n 1, 1) := by decide +kernel
theorem dX1_count_1 : decode cX1_count 1 = .ok (.iload_n 2, 1) := by decide +kernel
theorem dX1_count_2 : decode cX1_count 2 = .ok (.invokestatic 29, 3) := by decide +kernel
theorem dX1_count_5 : decode cX1_count 5 = .ok (.iload_n 3, 1) := by decide +kernel
theorem dX1_count_6 : decode cX1_count 6 = .ok (.sipush 200, 3) := by decide +kernel
theorem dX1_count_9 : decode cX1_count 9 = .ok (.invokestatic 99, 3) := by decide +kernel
theorem dX1_count_12 : decode cX1_count 12 = .ok (.aload_n 0, 1) := by decide +kernel
theorem dX1_count_13 : decode cX1_count 13 = .ok (.iload_n 1, 1) := by decide +kernel
theorem dX1_count_14 : decode cX1_count 14 = .ok (.iload_n 2, 1) := by decide +kernel
theorem dX1_count_15 : decode cX1_count 15 = .ok (.iload_n 3, 1) := by decide +kernel
theorem dX1_count_16 : decode cX1_count 16 = .ok (.iconst 1, 1) := by decide +kernel
theorem dX1_count_17 : decode cX1_count 17 = .ok (.iadd, 1) := by decide +kernel
theorem dX1_count_18 : decode cX1_count 18 = .ok (.invokevirtual 102, 3) := by decide +kernel
theorem dX1_count_21 : decode cX1_count 21 = .ok (.aload_n 0, 1) := by decide +kernel
theorem dX1_count_22 : decode cX1_count 22 = .ok (.iload_n 1, 1) := by decide +kernel
theorem dX1_count_23 : decode cX1_count 23 = .ok (.iload_n 2, 1) := by decide +kernel
theorem dX1_count_24 : decode cX1_count 24 = .ok (.iload_n 3, 1) := by decide +kernel
theorem dX1_count_25 : decode cX1_count 25 = .ok (.invokevirtual 102, 3) := by decide +kernel
theorem dX1_count_28 : decode cX1_count 28 = .ok (.lsub, 1) := by decide +kernel
theorem dX1_count_29 : decode cX1_count 29 = .ok (.lreturn, 1) := by decide +kernel
set_option maxRecDepth 20000 in
theorem ggX1_first_X1_requireCode : GoodIn wsX1_first wsX1_requireCode := goodIn_ca (goodIn_r _ [6, 7, 8, 9, 10, 5, 11, 12, 13, 14, 15, 16, 17, 18] (by decide +kernel) (by decide +kernel)) (goodIn_sub (fun _ h => List.mem_cons_of_mem _ (List.mem_append_right _ h)) (by decide +kernel))
set_option maxRecDepth 20000 in
theorem gX1_first_X1_requireCode : GoodIn wsX1_first (va_wsS RX1 29 yX1_requireCode wsX1_requireCode) := goodIn_app (goodIn_of _ (by decide +kernel)) ggX1_first_X1_requireCode
set_option maxRecDepth 20000 in
theorem ggX1_first_X1_requireLength : GoodIn wsX1_first wsX1_requireLength := goodIn_ca (goodIn_r _ [21, 7, 8] (by decide +kernel) (by decide +kernel)) (goodIn_sub (fun _ h => List.mem_cons_of_mem _ (List.mem_append_right _ h)) (by decide +kernel))
set_option maxRecDepth 20000 in
theorem gX1_first_X1_requireLength : GoodIn wsX1_first (va_wsS RX1 99 yX1_requireLength wsX1_requireLength) := goodIn_app (goodIn_of _ (by decide +kernel)) ggX1_first_X1_requireLength
set_option maxRecDepth 20000 in
theorem ggX1_first_X1_leastReaching : GoodIn wsX1_first wsX1_leastReaching := goodIn_r _ [25, 26, 27, 28, 29, 30, 5, 31, 32, 33, 34, 35, 36, 37, 38, 39, 40, 41, 42, 43, 44, 45, 46, 47, 48, 49, 50, 51, 52, 53, 54, 55, 56, 57, 58, 59, 60, 61, 62, 63, 64, 65, 66, 67, 68, 69, 70, 71, 72, 73, 74] (by decide +kernel) (by decide +kernel)
set_option maxRecDepth 20000 in
theorem gX1_first_X1_leastReaching : GoodIn wsX1_first (wsV RX1 102 RX1 yX1_leastReaching wsX1_leastReaching) := goodIn_app (goodIn_of _ (by decide +kernel)) ggX1_first_X1_leastReaching
set_option maxRecDepth 20000 in
theorem ggX1_first_X1_codewordLength : GoodIn wsX1_first wsX1_codewordLength := goodIn_r _ [31, 32, 33, 5, 34, 35, 36, 37, 38, 39, 40, 41, 42, 43, 44, 45, 46, 47, 48, 49, 50, 51, 52, 53, 54, 55, 56, 57, 58, 59, 60, 61, 62, 63, 64, 65, 66, 67, 68, 69, 70, 71, 72, 73, 74] (by decide +kernel) (by decide +kernel)
set_option maxRecDepth 20000 in
theorem gX1_first_X1_codewordLength : GoodIn wsX1_first (wsV RX1 37 RX1 yX1_codewordLength wsX1_codewordLength) := goodIn_app (goodIn_of _ (by decide +kernel)) ggX1_first_X1_codewordLength
theorem dX1_first_0 : decode cX1_first 0 = .ok (.iload_n 1, 1) := by decide +kernel
theorem dX1_first_1 : decode cX1_first 1 = .ok (.iload_n 2, 1) := by decide +kernel
theorem dX1_first_2 : decode cX1_first 2 = .ok (.invokestatic 29, 3) := by decide +kernel
theorem dX1_first_5 : decode cX1_first 5 = .ok (.iload_n 3, 1) := by decide +kernel
theorem dX1_first_6 : decode cX1_first 6 = .ok (.sipush 200, 3) := by decide +kernel
theorem dX1_first_9 : decode cX1_first 9 = .ok (.invokestatic 99, 3) := by decide +kernel
theorem dX1_first_12 : decode cX1_first 12 = .ok (.aload_n 0, 1) := by decide +kernel
theorem dX1_first_13 : decode cX1_first 13 = .ok (.iload_n 1, 1) := by decide +kernel
theorem dX1_first_14 : decode cX1_first 14 = .ok (.iload_n 2, 1) := by decide +kernel
theorem dX1_first_15 : decode cX1_first 15 = .ok (.iload_n 3, 1) := by decide +kernel
theorem dX1_first_16 : decode cX1_first 16 = .ok (.invokevirtual 102, 3) := by decide +kernel
theorem dX1_first_19 : decode cX1_first 19 = .ok (.lstore 4, 2) := by decide +kernel
theorem dX1_first_21 : decode cX1_first 21 = .ok (.lload 4, 2) := by decide +kernel
theorem dX1_first_23 : decode cX1_first 23 = .ok (.ldc2_w 106, 3) := by decide +kernel
theorem dX1_first_26 : decode cX1_first 26 = .ok (.lcmp, 1) := by decide +kernel
theorem dX1_first_27 : decode cX1_first 27 = .ok (.ifCond .gt 21, 3) := by decide +kernel
theorem dX1_first_30 : decode cX1_first 30 = .ok (.aload_n 0, 1) := by decide +kernel
theorem dX1_first_31 : decode cX1_first 31 = .ok (.iload_n 1, 1) := by decide +kernel
theorem dX1_first_32 : decode cX1_first 32 = .ok (.iload_n 2, 1) := by decide +kernel
theorem dX1_first_33 : decode cX1_first 33 = .ok (.lload 4, 2) := by decide +kernel
theorem dX1_first_35 : decode cX1_first 35 = .ok (.invokevirtual 37, 3) := by decide +kernel
theorem dX1_first_38 : decode cX1_first 38 = .ok (.iload_n 3, 1) := by decide +kernel
theorem dX1_first_39 : decode cX1_first 39 = .ok (.i2l, 1) := by decide +kernel
theorem dX1_first_40 : decode cX1_first 40 = .ok (.lcmp, 1) := by decide +kernel
theorem dX1_first_41 : decode cX1_first 41 = .ok (.ifCond .ne 7, 3) := by decide +kernel
theorem dX1_first_44 : decode cX1_first 44 = .ok (.iconst 1, 1) := by decide +kernel
theorem dX1_first_45 : decode cX1_first 45 = .ok (.goto 4, 3) := by decide +kernel
theorem dX1_first_48 : decode cX1_first 48 = .ok (.iconst 0, 1) := by decide +kernel
theorem dX1_first_49 : decode cX1_first 49 = .ok (.istore 6, 2) := by decide +kernel
theorem dX1_first_51 : decode cX1_first 51 = .ok (.iload 6, 2) := by decide +kernel
theorem dX1_first_53 : decode cX1_first 53 = .ok (.ifCond .eq 8, 3) := by decide +kernel
theorem dX1_first_56 : decode cX1_first 56 = .ok (.lload 4, 2) := by decide +kernel
theorem dX1_first_58 : decode cX1_first 58 = .ok (.goto 6, 3) := by decide +kernel
theorem dX1_first_61 : decode cX1_first 61 = .ok (.ldc2_w 97, 3) := by decide +kernel
theorem dX1_first_64 : decode cX1_first 64 = .ok (.lreturn, 1) := by decide +kernel
set_option maxRecDepth 20000 in
theorem ggX1_begun_X1_requireCode : GoodIn wsX1_begun wsX1_requireCode := goodIn_ca (goodIn_r _ [5, 6, 7, 8, 9, 4, 10, 11, 12, 13, 14, 15, 16, 17] (by decide +kernel) (by decide +kernel)) (goodIn_sub (fun _ h => List.mem_cons_of_mem _ (List.mem_append_right _ h)) (by decide +kernel))
set_option maxRecDepth 20000 in
theorem gX1_begun_X1_requireCode : GoodIn wsX1_begun (va_wsS RX1 29 yX1_requireCode wsX1_requireCode) := goodIn_app (goodIn_of _ (by decide +kernel)) ggX1_begun_X1_requireCode
set_option maxRecDepth 20000 in
theorem ggX1_begun_X1_requireLength : GoodIn wsX1_begun wsX1_requireLength := goodIn_ca (goodIn_r _ [20, 6, 7] (by decide +kernel) (by decide +kernel)) (goodIn_sub (fun _ h => List.mem_cons_of_mem _ (List.mem_append_right _ h)) (by decide +kernel))
set_option maxRecDepth 20000 in
theorem gX1_begun_X1_requireLength : GoodIn wsX1_begun (va_wsS RX1 99 yX1_requireLength wsX1_requireLength) := goodIn_app (goodIn_of _ (by decide +kernel)) ggX1_begun_X1_requireLength
set_option maxRecDepth 20000 in
theorem ggX1_begun_X1_leastReaching : GoodIn wsX1_begun wsX1_leastReaching := goodIn_r _ [24, 25, 1, 26, 27, 28, 4, 29, 30, 31, 32, 33, 34, 35, 36, 37, 38, 39, 40, 41, 42, 43, 44, 45, 46, 47, 48, 49, 50, 51, 52, 53, 54, 55, 56, 57, 58, 59, 60, 61, 62, 63, 64, 65, 66, 67, 68, 69, 70, 71, 72] (by decide +kernel) (by decide +kernel)
set_option maxRecDepth 20000 in
theorem gX1_begun_X1_leastReaching : GoodIn wsX1_begun (wsV RX1 102 RX1 yX1_leastReaching wsX1_leastReaching) := goodIn_app (goodIn_of _ (by decide +kernel)) ggX1_begun_X1_leastReaching
theorem dX1_begun_0 : decode cX1_begun 0 = .ok (.iload_n 1, 1) := by decide +kernel
theorem dX1_begun_1 : decode cX1_begun 1 = .ok (.iload_n 2, 1) := by decide +kernel
theorem dX1_begun_2 : decode cX1_begun 2 = .ok (.invokestatic 29, 3) := by decide +kernel
theorem dX1_begun_5 : decode cX1_begun 5 = .ok (.iload_n 3, 1) := by decide +kernel
theorem dX1_begun_6 : decode cX1_begun 6 = .ok (.bipush 62, 2) := by decide +kernel
theorem dX1_begun_8 : decode cX1_begun 8 = .ok (.invokestatic 99, 3) := by decide +kernel
theorem dX1_begun_11 : decode cX1_begun 11 = .ok (.lconst 0, 1) := by decide +kernel
theorem dX1_begun_12 : decode cX1_begun 12 = .ok (.lstore 4, 2) := by decide +kernel
theorem dX1_begun_14 : decode cX1_begun 14 = .ok (.lconst 1, 1) := by decide +kernel
theorem dX1_begun_15 : decode cX1_begun 15 = .ok (.lstore 6, 2) := by decide +kernel
theorem dX1_begun_17 : decode cX1_begun 17 = .ok (.iconst 1, 1) := by decide +kernel
theorem dX1_begun_18 : decode cX1_begun 18 = .ok (.istore 8, 2) := by decide +kernel
theorem dX1_begun_20 : decode cX1_begun 20 = .ok (.iload 8, 2) := by decide +kernel
theorem dX1_begun_22 : decode cX1_begun 22 = .ok (.iload_n 3, 1) := by decide +kernel
theorem dX1_begun_23 : decode cX1_begun 23 = .ok (.if_icmp .gt 39, 3) := by decide +kernel
theorem dX1_begun_26 : decode cX1_begun 26 = .ok (.aload_n 0, 1) := by decide +kernel
theorem dX1_begun_27 : decode cX1_begun 27 = .ok (.iload_n 1, 1) := by decide +kernel
theorem dX1_begun_28 : decode cX1_begun 28 = .ok (.iload_n 2, 1) := by decide +kernel
theorem dX1_begun_29 : decode cX1_begun 29 = .ok (.iload 8, 2) := by decide +kernel
theorem dX1_begun_31 : decode cX1_begun 31 = .ok (.iconst 1, 1) := by decide +kernel
theorem dX1_begun_32 : decode cX1_begun 32 = .ok (.iadd, 1) := by decide +kernel
theorem dX1_begun_33 : decode cX1_begun 33 = .ok (.invokevirtual 102, 3) := by decide +kernel
theorem dX1_begun_36 : decode cX1_begun 36 = .ok (.lstore 9, 2) := by decide +kernel
theorem dX1_begun_38 : decode cX1_begun 38 = .ok (.ldc2_w 27, 3) := by decide +kernel
theorem dX1_begun_41 : decode cX1_begun 41 = .ok (.lload 4, 2) := by decide +kernel
theorem dX1_begun_43 : decode cX1_begun 43 = .ok (.lmul, 1) := by decide +kernel
theorem dX1_begun_44 : decode cX1_begun 44 = .ok (.lload 9, 2) := by decide +kernel
theorem dX1_begun_46 : decode cX1_begun 46 = .ok (.lload 6, 2) := by decide +kernel
theorem dX1_begun_48 : decode cX1_begun 48 = .ok (.lsub, 1) := by decide +kernel
theorem dX1_begun_49 : decode cX1_begun 49 = .ok (.ladd, 1) := by decide +kernel
theorem dX1_begun_50 : decode cX1_begun 50 = .ok (.lstore 4, 2) := by decide +kernel
theorem dX1_begun_52 : decode cX1_begun 52 = .ok (.lload 9, 2) := by decide +kernel
theorem dX1_begun_54 : decode cX1_begun 54 = .ok (.lstore 6, 2) := by decide +kernel
theorem dX1_begun_56 : decode cX1_begun 56 = .ok (.iinc 8 1, 3) := by decide +kernel
theorem dX1_begun_59 : decode cX1_begun 59 = .ok (.goto (-39), 3) := by decide +kernel
theorem dX1_begun_62 : decode cX1_begun 62 = .ok (.lload 4, 2) := by decide +kernel
theorem dX1_begun_64 : decode cX1_begun 64 = .ok (.lreturn, 1) := by decide +kernel
theorem dX1_fold_0 : decode cX1_fold 0 = .ok (.lload_n 1, 1) := by decide +kernel
theorem dX1_fold_1 : decode cX1_fold 1 = .ok (.ldc2_w 108, 3) := by decide +kernel
theorem dX1_fold_4 : decode cX1_fold 4 = .ok (.lcmp, 1) := by decide +kernel
theorem dX1_fold_5 : decode cX1_fold 5 = .ok (.ifCond .gt 11, 3) := by decide +kernel
theorem dX1_fold_8 : decode cX1_fold 8 = .ok (.lload_n 1, 1) := by decide +kernel
theorem dX1_fold_9 : decode cX1_fold 9 = .ok (.ldc2_w 110, 3) := by decide +kernel
theorem dX1_fold_12 : decode cX1_fold 12 = .ok (.lcmp, 1) := by decide +kernel
theorem dX1_fold_13 : decode cX1_fold 13 = .ok (.ifCond .gt 13, 3) := by decide +kernel
theorem dX1_fold_16 : decode cX1_fold 16 = .ok (.new 52, 3) := by decide +kernel
theorem dX1_fold_19 : decode cX1_fold 19 = .ok (.dup, 1) := by decide +kernel
theorem dX1_fold_20 : decode cX1_fold 20 = .ok (.ldc 112, 2) := by decide +kernel
theorem dX1_fold_22 : decode cX1_fold 22 = .ok (.invokespecial 56, 3) := by decide +kernel
theorem dX1_fold_25 : decode cX1_fold 25 = .ok (.athrow, 1) := by decide +kernel
theorem dX1_fold_26 : decode cX1_fold 26 = .ok (.lload_n 1, 1) := by decide +kernel
theorem dX1_fold_27 : decode cX1_fold 27 = .ok (.lconst 0, 1) := by decide +kernel
theorem dX1_fold_28 : decode cX1_fold 28 = .ok (.lcmp, 1) := by decide +kernel
theorem dX1_fold_29 : decode cX1_fold 29 = .ok (.ifCond .le 11, 3) := by decide +kernel
theorem dX1_fold_32 : decode cX1_fold 32 = .ok (.ldc2_w 27, 3) := by decide +kernel
theorem dX1_fold_35 : decode cX1_fold 35 = .ok (.lload_n 1, 1) := by decide +kernel
theorem dX1_fold_36 : decode cX1_fold 36 = .ok (.lmul, 1) := by decide +kernel
theorem dX1_fold_37 : decode cX1_fold 37 = .ok (.goto 10, 3) := by decide +kernel
theorem dX1_fold_40 : decode cX1_fold 40 = .ok (.lconst 1, 1) := by decide +kernel
theorem dX1_fold_41 : decode cX1_fold 41 = .ok (.ldc2_w 27, 3) := by decide +kernel
theorem dX1_fold_44 : decode cX1_fold 44 = .ok (.lload_n 1, 1) := by decide +kernel
theorem dX1_fold_45 : decode cX1_fold 45 = .ok (.lmul, 1) := by decide +kernel
theorem dX1_fold_46 : decode cX1_fold 46 = .ok (.lsub, 1) := by decide +kernel
theorem dX1_fold_47 : decode cX1_fold 47 = .ok (.lreturn, 1) := by decide +kernel
set_option maxRecDepth 20000 in
theorem ggX1_unfold_X1_requireNumber : GoodIn wsX1_unfold wsX1_requireNumber := goodIn_ca (goodIn_r _ [5, 6, 7, 8] (by decide +kernel) (by decide +kernel)) (goodIn_sub (fun _ h => List.mem_cons_of_mem _ (List.mem_append_right _ h)) (by decide +kernel))
set_option maxRecDepth 20000 in
theorem gX1_unfold_X1_requireNumber : GoodIn wsX1_unfold (va_wsS RX1 33 yX1_requireNumber wsX1_requireNumber) := goodIn_app (goodIn_of _ (by decide +kernel)) ggX1_unfold_X1_requireNumber
theorem dX1_unfold_0 : decode cX1_unfold 0 = .ok (.lload_n 1, 1) := by decide +kernel
theorem dX1_unfold_1 : decode cX1_unfold 1 = .ok (.invokestatic 33, 3) := by decide +kernel
theorem dX1_unfold_4 : decode cX1_unfold 4 = .ok (.lload_n 1, 1) := by decide +kernel
theorem dX1_unfold_5 : decode cX1_unfold 5 = .ok (.ldc2_w 27, 3) := by decide +kernel
theorem dX1_unfold_8 : decode cX1_unfold 8 = .ok (.lrem, 1) := by decide +kernel
theorem dX1_unfold_9 : decode cX1_unfold 9 = .ok (.lconst 0, 1) := by decide +kernel
theorem dX1_unfold_10 : decode cX1_unfold 10 = .ok (.lcmp, 1) := by decide +kernel
theorem dX1_unfold_11 : decode cX1_unfold 11 = .ok (.ifCond .ne 11, 3) := by decide +kernel
theorem dX1_unfold_14 : decode cX1_unfold 14 = .ok (.lload_n 1, 1) := by decide +kernel
theorem dX1_unfold_15 : decode cX1_unfold 15 = .ok (.ldc2_w 27, 3) := by decide +kernel
theorem dX1_unfold_18 : decode cX1_unfold 18 = .ok (.ldiv, 1) := by decide +kernel
theorem dX1_unfold_19 : decode cX1_unfold 19 = .ok (.goto 10, 3) := by decide +kernel
theorem dX1_unfold_22 : decode cX1_unfold 22 = .ok (.lconst 1, 1) := by decide +kernel
theorem dX1_unfold_23 : decode cX1_unfold 23 = .ok (.lload_n 1, 1) := by decide +kernel
theorem dX1_unfold_24 : decode cX1_unfold 24 = .ok (.lsub, 1) := by decide +kernel
theorem dX1_unfold_25 : decode cX1_unfold 25 = .ok (.ldc2_w 27, 3) := by decide +kernel
theorem dX1_unfold_28 : decode cX1_unfold 28 = .ok (.ldiv, 1) := by decide +kernel
theorem dX1_unfold_29 : decode cX1_unfold 29 = .ok (.lreturn, 1) := by decide +kernel
theorem dX1_leastParameter_0 : decode cX1_leastParameter 0 = .ok (.iload_n 0, 1) := by decide +kernel
theorem dX1_leastParameter_1 : decode cX1_leastParameter 1 = .ok (.iconst 5, 1) := by decide +kernel
theorem dX1_leastParameter_2 : decode cX1_leastParameter 2 = .ok (.if_icmp .eq 9, 3) := by decide +kernel
theorem dX1_leastParameter_5 : decode cX1_leastParameter 5 = .ok (.iload_n 0, 1) := by decide +kernel
theorem dX1_leastParameter_6 : decode cX1_leastParameter 6 = .ok (.bipush 7, 2) := by decide +kernel
theorem dX1_leastParameter_8 : decode cX1_leastParameter 8 = .ok (.if_icmp .ne 7, 3) := by decide +kernel
theorem dX1_leastParameter_11 : decode cX1_leastParameter 11 = .ok (.iconst 1, 1) := by decide +kernel
theorem dX1_leastParameter_12 : decode cX1_leastParameter 12 = .ok (.goto 4, 3) := by decide +kernel
theorem dX1_leastParameter_15 : decode cX1_leastParameter 15 = .ok (.iconst 0, 1) := by decide +kernel
theorem dX1_leastParameter_16 : decode cX1_leastParameter 16 = .ok (.ireturn, 1) := by decide +kernel
theorem dX1_greatestParameter_0 : decode cX1_greatestParameter 0 = .ok (.iload_n 0, 1) := by decide +kernel
theorem dX1_greatestParameter_1 : decode cX1_greatestParameter 1 = .ok (.tableswitch 36 5 7 #[27, 30, 33], 27) := by decide +kernel
theorem dX1_greatestParameter_28 : decode cX1_greatestParameter 28 = .ok (.ldc 114, 2) := by decide +kernel
theorem dX1_greatestParameter_30 : decode cX1_greatestParameter 30 = .ok (.ireturn, 1) := by decide +kernel
theorem dX1_greatestParameter_31 : decode cX1_greatestParameter 31 = .ok (.bipush 40, 2) := by decide +kernel
theorem dX1_greatestParameter_33 : decode cX1_greatestParameter 33 = .ok (.ireturn, 1) := by decide +kernel
theorem dX1_greatestParameter_34 : decode cX1_greatestParameter 34 = .ok (.bipush 16, 2) := by decide +kernel
theorem dX1_greatestParameter_36 : decode cX1_greatestParameter 36 = .ok (.ireturn, 1) := by decide +kernel
theorem dX1_greatestParameter_37 : decode cX1_greatestParameter 37 = .ok (.iconst 0, 1) := by decide +kernel
theorem dX1_greatestParameter_38 : decode cX1_greatestParameter 38 = .ok (.ireturn, 1) := by decide +kernel
set_option maxRecDepth 20000 in
theorem ggX1_isCode_X1_leastParameter : GoodIn wsX1_isCode wsX1_leastParameter := goodIn_r _ [4] (by decide +kernel) (by decide +kernel)
set_option maxRecDepth 20000 in
theorem gX1_isCode_X1_leastParameter : GoodIn wsX1_isCode (va_wsS RX1 93 yX1_leastParameter wsX1_leastParameter) := goodIn_app (goodIn_of _ (by decide +kernel)) ggX1_isCode_X1_leastParameter
set_option maxRecDepth 20000 in
theorem ggX1_isCode_X1_greatestParameter : GoodIn wsX1_isCode wsX1_greatestParameter := goodIn_r _ [7, 8] (by decide +kernel) (by decide +kernel)
set_option maxRecDepth 20000 in
theorem gX1_isCode_X1_greatestParameter : GoodIn wsX1_isCode (va_wsS RX1 115 yX1_greatestParameter wsX1_greatestParameter) := goodIn_app (goodIn_of _ (by decide +kernel)) ggX1_isCode_X1_greatestParameter
theorem dX1_isCode_0 : decode cX1_isCode 0 = .ok (.iload_n 0, 1) := by decide +kernel
theorem dX1_isCode_1 : decode cX1_isCode 1 = .ok (.ifCond .lt 29, 3) := by decide +kernel
theorem dX1_isCode_4 : decode cX1_isCode 4 = .ok (.iload_n 0, 1) := by decide +kernel
theorem dX1_isCode_5 : decode cX1_isCode 5 = .ok (.bipush 7, 2) := by decide +kernel
theorem dX1_isCode_7 : decode cX1_isCode 7 = .ok (.if_icmp .gt 23, 3) := by decide +kernel
theorem dX1_isCode_10 : decode cX1_isCode 10 = .ok (.iload_n 1, 1) := by decide +kernel
theorem dX1_isCode_11 : decode cX1_isCode 11 = .ok (.iload_n 0, 1) := by decide +kernel
theorem dX1_isCode_12 : decode cX1_isCode 12 = .ok (.invokestatic 93, 3) := by decide +kernel
theorem dX1_isCode_15 : decode cX1_isCode 15 = .ok (.if_icmp .lt 15, 3) := by decide +kernel
theorem dX1_isCode_18 : decode cX1_isCode 18 = .ok (.iload_n 1, 1) := by decide +kernel
theorem dX1_isCode_19 : decode cX1_isCode 19 = .ok (.iload_n 0, 1) := by decide +kernel
theorem dX1_isCode_20 : decode cX1_isCode 20 = .ok (.invokestatic 115, 3) := by decide +kernel
theorem dX1_isCode_23 : decode cX1_isCode 23 = .ok (.if_icmp .gt 7, 3) := by decide +kernel
theorem dX1_isCode_26 : decode cX1_isCode 26 = .ok (.iconst 1, 1) := by decide +kernel
theorem dX1_isCode_27 : decode cX1_isCode 27 = .ok (.goto 4, 3) := by decide +kernel
theorem dX1_isCode_30 : decode cX1_isCode 30 = .ok (.iconst 0, 1) := by decide +kernel
theorem dX1_isCode_31 : decode cX1_isCode 31 = .ok (.ireturn, 1) := by decide +kernel
set_option maxRecDepth 20000 in
theorem ggX1_requireCode_X1_isCode : GoodIn wsX1_requireCode wsX1_isCode := goodIn_r _ [6, 7, 8, 5, 9, 10, 11, 12, 13] (by decide +kernel) (by decide +kernel)
set_option maxRecDepth 20000 in
theorem gX1_requireCode_X1_isCode : GoodIn wsX1_requireCode (va_wsS RX1 87 yX1_isCode wsX1_isCode) := goodIn_app (goodIn_of _ (by decide +kernel)) ggX1_requireCode_X1_isCode
theorem dX1_requireCode_0 : decode cX1_requireCode 0 = .ok (.iload_n 0, 1) := by decide +kernel
theorem dX1_requireCode_1 : decode cX1_requireCode 1 = .ok (.iload_n 1, 1) := by decide +kernel
theorem dX1_requireCode_2 : decode cX1_requireCode 2 = .ok (.invokestatic 87, 3) := by decide +kernel
theorem dX1_requireCode_5 : decode cX1_requireCode 5 = .ok (.ifCond .ne 13, 3) := by decide +kernel
theorem dX1_requireCode_8 : decode cX1_requireCode 8 = .ok (.new 52, 3) := by decide +kernel
theorem dX1_requireCode_11 : decode cX1_requireCode 11 = .ok (.dup, 1) := by decide +kernel
theorem dX1_requireCode_12 : decode cX1_requireCode 12 = .ok (.ldc 118, 2) := by decide +kernel
theorem dX1_requireCode_14 : decode cX1_requireCode 14 = .ok (.invokespecial 56, 3) := by decide +kernel
theorem dX1_requireCode_17 : decode cX1_requireCode 17 = .ok (.athrow, 1) := by decide +kernel
theorem dX1_requireCode_18 : decode cX1_requireCode 18 = .ok (.return_, 1) := by decide +kernel
theorem dX1_requireNumber_0 : decode cX1_requireNumber 0 = .ok (.lload_n 0, 1) := by decide +kernel
theorem dX1_requireNumber_1 : decode cX1_requireNumber 1 = .ok (.lconst 1, 1) := by decide +kernel
theorem dX1_requireNumber_2 : decode cX1_requireNumber 2 = .ok (.lcmp, 1) := by decide +kernel
theorem dX1_requireNumber_3 : decode cX1_requireNumber 3 = .ok (.ifCond .lt 11, 3) := by decide +kernel
theorem dX1_requireNumber_6 : decode cX1_requireNumber 6 = .ok (.lload_n 0, 1) := by decide +kernel
theorem dX1_requireNumber_7 : decode cX1_requireNumber 7 = .ok (.ldc2_w 106, 3) := by decide +kernel
theorem dX1_requireNumber_10 : decode cX1_requireNumber 10 = .ok (.lcmp, 1) := by decide +kernel
theorem dX1_requireNumber_11 : decode cX1_requireNumber 11 = .ok (.ifCond .le 13, 3) := by decide +kernel
theorem dX1_requireNumber_14 : decode cX1_requireNumber 14 = .ok (.new 52, 3) := by decide +kernel
theorem dX1_requireNumber_17 : decode cX1_requireNumber 17 = .ok (.dup, 1) := by decide +kernel
theorem dX1_requireNumber_18 : decode cX1_requireNumber 18 = .ok (.ldc 120, 2) := by decide +kernel
theorem dX1_requireNumber_20 : decode cX1_requireNumber 20 = .ok (.invokespecial 56, 3) := by decide +kernel
theorem dX1_requireNumber_23 : decode cX1_requireNumber 23 = .ok (.athrow, 1) := by decide +kernel
theorem dX1_requireNumber_24 : decode cX1_requireNumber 24 = .ok (.return_, 1) := by decide +kernel
theorem dX1_requireLength_0 : decode cX1_requireLength 0 = .ok (.iload_n 0, 1) := by decide +kernel
theorem dX1_requireLength_1 : decode cX1_requireLength 1 = .ok (.ifCond .lt 8, 3) := by decide +kernel
theorem dX1_requireLength_4 : decode cX1_requireLength 4 = .ok (.iload_n 0, 1) := by decide +kernel
theorem dX1_requireLength_5 : decode cX1_requireLength 5 = .ok (.iload_n 1, 1) := by decide +kernel
theorem dX1_requireLength_6 : decode cX1_requireLength 6 = .ok (.if_icmp .le 13, 3) := by decide +kernel
theorem dX1_requireLength_9 : decode cX1_requireLength 9 = .ok (.new 52, 3) := by decide +kernel
theorem dX1_requireLength_12 : decode cX1_requireLength 12 = .ok (.dup, 1) := by decide +kernel
theorem dX1_requireLength_13 : decode cX1_requireLength 13 = .ok (.ldc 122, 2) := by decide +kernel
theorem dX1_requireLength_15 : decode cX1_requireLength 15 = .ok (.invokespecial 56, 3) := by decide +kernel
theorem dX1_requireLength_18 : decode cX1_requireLength 18 = .ok (.athrow, 1) := by decide +kernel
theorem dX1_requireLength_19 : decode cX1_requireLength 19 = .ok (.return_, 1) := by decide +kernel
set_option maxRecDepth 20000 in
theorem ggX1_codewordLength_X1_gammaLength : GoodIn wsX1_codewordLength wsX1_gammaLength := goodIn_r _ [4, 5, 6, 3, 7, 8, 9, 10, 11, 12, 13, 14, 15, 16] (by decide +kernel) (by decide +kernel)
set_option maxRecDepth 20000 in
theorem gX1_codewordLength_X1_gammaLength : GoodIn wsX1_codewordLength (va_wsS RX1 124 yX1_gammaLength wsX1_gammaLength) := goodIn_app (goodIn_of _ (by decide +kernel)) ggX1_codewordLength_X1_gammaLength
set_option maxRecDepth 20000 in
theorem ggX1_codewordLength_X1_bitLength : GoodIn wsX1_codewordLength wsX1_bitLength := goodIn_r _ [7, 8, 9, 10, 11, 12, 13, 14, 15, 16] (by decide +kernel) (by decide +kernel)
set_option maxRecDepth 20000 in
theorem gX1_codewordLength_X1_bitLength : GoodIn wsX1_codewordLength (va_wsS RX1 127 yX1_bitLength wsX1_bitLength) := goodIn_app (goodIn_of _ (by decide +kernel)) ggX1_codewordLength_X1_bitLength
set_option maxRecDepth 20000 in
theorem ggX1_codewordLength_X1_omegaLength : GoodIn wsX1_codewordLength wsX1_omegaLength := goodIn_r _ [19, 5, 6, 3, 7, 8, 9, 10, 11, 12, 13, 14, 15, 16] (by decide +kernel) (by decide +kernel)
set_option maxRecDepth 20000 in
theorem gX1_codewordLength_X1_omegaLength : GoodIn wsX1_codewordLength (va_wsS RX1 130 yX1_omegaLength wsX1_omegaLength) := goodIn_app (goodIn_of _ (by decide +kernel)) ggX1_codewordLength_X1_omegaLength
set_option maxRecDepth 20000 in
theorem ggX1_codewordLength_X1_fibonacciLength : GoodIn wsX1_codewordLength wsX1_fibonacciLength := goodIn_r _ [23, 24, 41, 42, 43, 44] (by decide +kernel) (by decide +kernel)
set_option maxRecDepth 20000 in
theorem gX1_codewordLength_X1_fibonacciLength : GoodIn wsX1_codewordLength (wsV RX1 133 RX1 yX1_fibonacciLength wsX1_fibonacciLength) := goodIn_app (goodIn_of _ (by decide +kernel)) ggX1_codewordLength_X1_fibonacciLength
set_option maxRecDepth 20000 in
theorem ggX1_codewordLength_X1_golombLength : GoodIn wsX1_codewordLength wsX1_golombLength := goodIn_r _ [27, 28, 29, 3, 30, 5, 6, 7, 8, 9, 10, 11, 12, 13, 14, 15, 16, 31, 32, 33] (by decide +kernel) (by decide +kernel)
set_option maxRecDepth 20000 in
theorem gX1_codewordLength_X1_golombLength : GoodIn wsX1_codewordLength (va_wsS RX1 136 yX1_golombLength wsX1_golombLength) := goodIn_app (goodIn_of _ (by decide +kernel)) ggX1_codewordLength_X1_golombLength
set_option maxRecDepth 20000 in
theorem ggX1_codewordLength_X1_groupsOf : GoodIn wsX1_codewordLength wsX1_groupsOf := goodIn_r _ [36, 37, 38, 39, 40, 5, 6, 3, 7, 8, 9, 10, 11, 12, 13, 14, 15, 16] (by decide +kernel) (by decide +kernel)
set_option maxRecDepth 20000 in
theorem gX1_codewordLength_X1_groupsOf : GoodIn wsX1_codewordLength (va_wsS RX1 140 yX1_groupsOf wsX1_groupsOf) := goodIn_app (goodIn_of _ (by decide +kernel)) ggX1_codewordLength_X1_groupsOf
theorem dX1_codewordLength_0 : decode cX1_codewordLength 0 = .ok (.iload_n 1, 1) := by decide +kernel
theorem dX1_codewordLength_1 : decode cX1_codewordLength 1 = .ok (.tableswitch 101 0 6 #[43, 45, 51, 68, 74, 81, 87], 43) := by decide +kernel
theorem dX1_codewordLength_44 : decode cX1_codewordLength 44 = .ok (.lload_n 3, 1) := by decide +kernel
theorem dX1_codewordLength_45 : decode cX1_codewordLength 45 = .ok (.lreturn, 1) := by decide +kernel
theorem dX1_codewordLength_46 : decode cX1_codewordLength 46 = .ok (.lload_n 3, 1) := by decide +kernel
theorem dX1_codewordLength_47 : decode cX1_codewordLength 47 = .ok (.invokestatic 124, 3) := by decide +kernel
theorem dX1_codewordLength_50 : decode cX1_codewordLength 50 = .ok (.i2l, 1) := by decide +kernel
theorem dX1_codewordLength_51 : decode cX1_codewordLength 51 = .ok (.lreturn, 1) := by decide +kernel
theorem dX1_codewordLength_52 : decode cX1_codewordLength 52 = .ok (.lload_n 3, 1) := by decide +kernel
theorem dX1_codewordLength_53 : decode cX1_codewordLength 53 = .ok (.invokestatic 127, 3) := by decide +kernel
theorem dX1_codewordLength_56 : decode cX1_codewordLength 56 = .ok (.i2l, 1) := by decide +kernel
theorem dX1_codewordLength_57 : decode cX1_codewordLength 57 = .ok (.invokestatic 124, 3) := by decide +kernel
theorem dX1_codewordLength_60 : decode cX1_codewordLength 60 = .ok (.lload_n 3, 1) := by decide +kernel
theorem dX1_codewordLength_61 : decode cX1_codewordLength 61 = .ok (.invokestatic 127, 3) := by decide +kernel
theorem dX1_codewordLength_64 : decode cX1_codewordLength 64 = .ok (.iadd, 1) := by decide +kernel
theorem dX1_codewordLength_65 : decode cX1_codewordLength 65 = .ok (.iconst 1, 1) := by decide +kernel
theorem dX1_codewordLength_66 : decode cX1_codewordLength 66 = .ok (.isub, 1) := by decide +kernel
theorem dX1_codewordLength_67 : decode cX1_codewordLength 67 = .ok (.i2l, 1) := by decide +kernel
theorem dX1_codewordLength_68 : decode cX1_codewordLength 68 = .ok (.lreturn, 1) := by decide +kernel
theorem dX1_codewordLength_69 : decode cX1_codewordLength 69 = .ok (.lload_n 3, 1) := by decide +kernel
theorem dX1_codewordLength_70 : decode cX1_codewordLength 70 = .ok (.invokestatic 130, 3) := by decide +kernel
theorem dX1_codewordLength_73 : decode cX1_codewordLength 73 = .ok (.i2l, 1) := by decide +kernel
theorem dX1_codewordLength_74 : decode cX1_codewordLength 74 = .ok (.lreturn, 1) := by decide +kernel
theorem dX1_codewordLength_75 : decode cX1_codewordLength 75 = .ok (.aload_n 0, 1) := by decide +kernel
theorem dX1_codewordLength_76 : decode cX1_codewordLength 76 = .ok (.lload_n 3, 1) := by decide +kernel
theorem dX1_codewordLength_77 : decode cX1_codewordLength 77 = .ok (.invokevirtual 133, 3) := by decide +kernel
theorem dX1_codewordLength_80 : decode cX1_codewordLength 80 = .ok (.i2l, 1) := by decide +kernel
theorem dX1_codewordLength_81 : decode cX1_codewordLength 81 = .ok (.lreturn, 1) := by decide +kernel
theorem dX1_codewordLength_82 : decode cX1_codewordLength 82 = .ok (.iload_n 2, 1) := by decide +kernel
theorem dX1_codewordLength_83 : decode cX1_codewordLength 83 = .ok (.lload_n 3, 1) := by decide +kernel
theorem dX1_codewordLength_84 : decode cX1_codewordLength 84 = .ok (.invokestatic 136, 3) := by decide +kernel
theorem dX1_codewordLength_87 : decode cX1_codewordLength 87 = .ok (.lreturn, 1) := by decide +kernel
theorem dX1_codewordLength_88 : decode cX1_codewordLength 88 = .ok (.lload_n 3, 1) := by decide +kernel
theorem dX1_codewordLength_89 : decode cX1_codewordLength 89 = .ok (.lconst 1, 1) := by decide +kernel
theorem dX1_codewordLength_90 : decode cX1_codewordLength 90 = .ok (.lsub, 1) := by decide +kernel
theorem dX1_codewordLength_91 : decode cX1_codewordLength 91 = .ok (.iload_n 2, 1) := by decide +kernel
theorem dX1_codewordLength_92 : decode cX1_codewordLength 92 = .ok (.lshr, 1) := by decide +kernel
theorem dX1_codewordLength_93 : decode cX1_codewordLength 93 = .ok (.lconst 1, 1) := by decide +kernel
theorem dX1_codewordLength_94 : decode cX1_codewordLength 94 = .ok (.ladd, 1) := by decide +kernel
theorem dX1_codewordLength_95 : decode cX1_codewordLength 95 = .ok (.invokestatic 124, 3) := by decide +kernel
theorem dX1_codewordLength_98 : decode cX1_codewordLength 98 = .ok (.iload_n 2, 1) := by decide +kernel
theorem dX1_codewordLength_99 : decode cX1_codewordLength 99 = .ok (.iadd, 1) := by decide +kernel
theorem dX1_codewordLength_100 : decode cX1_codewordLength 100 = .ok (.i2l, 1) := by decide +kernel
theorem dX1_codewordLength_101 : decode cX1_codewordLength 101 = .ok (.lreturn, 1) := by decide +kernel
theorem dX1_codewordLength_102 : decode cX1_codewordLength 102 = .ok (.iload_n 2, 1) := by decide +kernel
theorem dX1_codewordLength_103 : decode cX1_codewordLength 103 = .ok (.lload_n 3, 1) := by decide +kernel
theorem dX1_codewordLength_104 : decode cX1_codewordLength 104 = .ok (.invokestatic 140, 3) := by decide +kernel
theorem dX1_codewordLength_107 : decode cX1_codewordLength 107 = .ok (.i2l, 1) := by decide +kernel
theorem dX1_codewordLength_108 : decode cX1_codewordLength 108 = .ok (.iload_n 2, 1) := by decide +kernel
theorem dX1_codewordLength_109 : decode cX1_codewordLength 109 = .ok (.iconst 1, 1) := by decide +kernel
theorem dX1_codewordLength_110 : decode cX1_codewordLength 110 = .ok (.iadd, 1) := by decide +kernel
theorem dX1_codewordLength_111 : decode cX1_codewordLength 111 = .ok (.i2l, 1) := by decide +kernel
theorem dX1_codewordLength_112 : decode cX1_codewordLength 112 = .ok (.lmul, 1) := by decide +kernel
theorem dX1_codewordLength_113 : decode cX1_codewordLength 113 = .ok (.lreturn, 1) := by decide +kernel
set_option maxRecDepth 20000 in
theorem ggX1_bitLength_J13_numberOfLeadingZeros_95d88 : GoodIn wsX1_bitLength wsJ13_numberOfLeadingZeros_95d88 := goodIn_r _ [4, 5, 6, 7, 8, 9] (by decide +kernel) (by decide +kernel)
set_option maxRecDepth 20000 in
theorem gX1_bitLength_J13_numberOfLeadingZeros_95d88 : GoodIn wsX1_bitLength (va_wsS RX1 144 yJ13_numberOfLeadingZeros_95d88 wsJ13_numberOfLeadingZeros_95d88) := goodIn_app (goodIn_of _ (by decide +kernel)) ggX1_bitLength_J13_numberOfLeadingZeros_95d88
theorem dX1_bitLength_0 : decode cX1_bitLength 0 = .ok (.bipush 64, 2) := by decide +kernel
theorem dX1_bitLength_2 : decode cX1_bitLength 2 = .ok (.lload_n 0, 1) := by decide +kernel
theorem dX1_bitLength_3 : decode cX1_bitLength 3 = .ok (.invokestatic 144, 3) := by decide +kernel
theorem dX1_bitLength_6 : decode cX1_bitLength 6 = .ok (.isub, 1) := by decide +kernel
theorem dX1_bitLength_7 : decode cX1_bitLength 7 = .ok (.ireturn, 1) := by decide +kernel
set_option maxRecDepth 20000 in
theorem ggX1_gammaLength_X1_bitLength : GoodIn wsX1_gammaLength wsX1_bitLength := goodIn_r _ [4, 5, 6, 7, 8, 9, 10, 11, 12, 13] (by decide +kernel) (by decide +kernel)
set_option maxRecDepth 20000 in
theorem gX1_gammaLength_X1_bitLength : GoodIn wsX1_gammaLength (va_wsS RX1 127 yX1_bitLength wsX1_bitLength) := goodIn_app (goodIn_of _ (by decide +kernel)) ggX1_gammaLength_X1_bitLength
theorem dX1_gammaLength_0 : decode cX1_gammaLength 0 = .ok (.iconst 2, 1) := by decide +kernel
theorem dX1_gammaLength_1 : decode cX1_gammaLength 1 = .ok (.lload_n 0, 1) := by decide +kernel
theorem dX1_gammaLength_2 : decode cX1_gammaLength 2 = .ok (.invokestatic 127, 3) := by decide +kernel
theorem dX1_gammaLength_5 : decode cX1_gammaLength 5 = .ok (.imul, 1) := by decide +kernel
theorem dX1_gammaLength_6 : decode cX1_gammaLength 6 = .ok (.iconst 1, 1) := by decide +kernel
theorem dX1_gammaLength_7 : decode cX1_gammaLength 7 = .ok (.isub, 1) := by decide +kernel
theorem dX1_gammaLength_8 : decode cX1_gammaLength 8 = .ok (.ireturn, 1) := by decide +kernel
set_option maxRecDepth 20000 in
theorem ggX1_omegaLength_X1_bitLength : GoodIn wsX1_omegaLength wsX1_bitLength := goodIn_r _ [4, 5, 6, 7, 8, 9, 10, 11, 12, 13] (by decide +kernel) (by decide +kernel)
set_option maxRecDepth 20000 in
theorem gX1_omegaLength_X1_bitLength : GoodIn wsX1_omegaLength (va_wsS RX1 127 yX1_bitLength wsX1_bitLength) := goodIn_app (goodIn_of _ (by decide +kernel)) ggX1_omegaLength_X1_bitLength
theorem dX1_omegaLength_0 : decode cX1_omegaLength 0 = .ok (.iconst 1, 1) := by decide +kernel
theorem dX1_omegaLength_1 : decode cX1_omegaLength 1 = .ok (.istore_n 2, 1) := by decide +kernel
theorem dX1_omegaLength_2 : decode cX1_omegaLength 2 = .ok (.lload_n 0, 1) := by decide +kernel
theorem dX1_omegaLength_3 : decode cX1_omegaLength 3 = .ok (.lstore_n 3, 1) := by decide +kernel
theorem dX1_omegaLength_4 : decode cX1_omegaLength 4 = .ok (.iconst 0, 1) := by decide +kernel
theorem dX1_omegaLength_5 : decode cX1_omegaLength 5 = .ok (.istore 5, 2) := by decide +kernel
theorem dX1_omegaLength_7 : decode cX1_omegaLength 7 = .ok (.iload 5, 2) := by decide +kernel
theorem dX1_omegaLength_9 : decode cX1_omegaLength 9 = .ok (.bipush 8, 2) := by decide +kernel
theorem dX1_omegaLength_11 : decode cX1_omegaLength 11 = .ok (.if_icmp .ge 32, 3) := by decide +kernel
theorem dX1_omegaLength_14 : decode cX1_omegaLength 14 = .ok (.lload_n 3, 1) := by decide +kernel
theorem dX1_omegaLength_15 : decode cX1_omegaLength 15 = .ok (.lconst 1, 1) := by decide +kernel
theorem dX1_omegaLength_16 : decode cX1_omegaLength 16 = .ok (.lcmp, 1) := by decide +kernel
theorem dX1_omegaLength_17 : decode cX1_omegaLength 17 = .ok (.ifCond .le 26, 3) := by decide +kernel
theorem dX1_omegaLength_20 : decode cX1_omegaLength 20 = .ok (.lload_n 3, 1) := by decide +kernel
theorem dX1_omegaLength_21 : decode cX1_omegaLength 21 = .ok (.invokestatic 127, 3) := by decide +kernel
theorem dX1_omegaLength_24 : decode cX1_omegaLength 24 = .ok (.istore 6, 2) := by decide +kernel
theorem dX1_omegaLength_26 : decode cX1_omegaLength 26 = .ok (.iload_n 2, 1) := by decide +kernel
theorem dX1_omegaLength_27 : decode cX1_omegaLength 27 = .ok (.iload 6, 2) := by decide +kernel
theorem dX1_omegaLength_29 : decode cX1_omegaLength 29 = .ok (.iadd, 1) := by decide +kernel
theorem dX1_omegaLength_30 : decode cX1_omegaLength 30 = .ok (.istore_n 2, 1) := by decide +kernel
theorem dX1_omegaLength_31 : decode cX1_omegaLength 31 = .ok (.iload 6, 2) := by decide +kernel
theorem dX1_omegaLength_33 : decode cX1_omegaLength 33 = .ok (.iconst 1, 1) := by decide +kernel
theorem dX1_omegaLength_34 : decode cX1_omegaLength 34 = .ok (.isub, 1) := by decide +kernel
theorem dX1_omegaLength_35 : decode cX1_omegaLength 35 = .ok (.i2l, 1) := by decide +kernel
theorem dX1_omegaLength_36 : decode cX1_omegaLength 36 = .ok (.lstore_n 3, 1) := by decide +kernel
theorem dX1_omegaLength_37 : decode cX1_omegaLength 37 = .ok (.iinc 5 1, 3) := by decide +kernel
theorem dX1_omegaLength_40 : decode cX1_omegaLength 40 = .ok (.goto (-33), 3) := by decide +kernel
theorem dX1_omegaLength_43 : decode cX1_omegaLength 43 = .ok (.iload_n 2, 1) := by decide +kernel
theorem dX1_omegaLength_44 : decode cX1_omegaLength 44 = .ok (.ireturn, 1) := by decide +kernel
theorem dX1_fibonacciLength_0 : decode cX1_fibonacciLength 0 = .ok (.iconst 0, 1) := by decide +kernel
theorem dX1_fibonacciLength_1 : decode cX1_fibonacciLength 1 = .ok (.istore_n 3, 1) := by decide +kernel
theorem dX1_fibonacciLength_2 : decode cX1_fibonacciLength 2 = .ok (.bipush 88, 2) := by decide +kernel
theorem dX1_fibonacciLength_4 : decode cX1_fibonacciLength 4 = .ok (.istore 4, 2) := by decide +kernel
theorem dX1_fibonacciLength_6 : decode cX1_fibonacciLength 6 = .ok (.iconst 0, 1) := by decide +kernel
theorem dX1_fibonacciLength_7 : decode cX1_fibonacciLength 7 = .ok (.istore 5, 2) := by decide +kernel
theorem dX1_fibonacciLength_9 : decode cX1_fibonacciLength 9 = .ok (.iload 5, 2) := by decide +kernel
theorem dX1_fibonacciLength_11 : decode cX1_fibonacciLength 11 = .ok (.bipush 64, 2) := by decide +kernel
theorem dX1_fibonacciLength_13 : decode cX1_fibonacciLength 13 = .ok (.if_icmp .ge 49, 3) := by decide +kernel
theorem dX1_fibonacciLength_16 : decode cX1_fibonacciLength 16 = .ok (.iload_n 3, 1) := by decide +kernel
theorem dX1_fibonacciLength_17 : decode cX1_fibonacciLength 17 = .ok (.iload 4, 2) := by decide +kernel
theorem dX1_fibonacciLength_19 : decode cX1_fibonacciLength 19 = .ok (.if_icmp .ge 43, 3) := by decide +kernel
theorem dX1_fibonacciLength_22 : decode cX1_fibonacciLength 22 = .ok (.iload_n 3, 1) := by decide +kernel
theorem dX1_fibonacciLength_23 : decode cX1_fibonacciLength 23 = .ok (.iload 4, 2) := by decide +kernel
theorem dX1_fibonacciLength_25 : decode cX1_fibonacciLength 25 = .ok (.iadd, 1) := by decide +kernel
theorem dX1_fibonacciLength_26 : decode cX1_fibonacciLength 26 = .ok (.iconst 1, 1) := by decide +kernel
theorem dX1_fibonacciLength_27 : decode cX1_fibonacciLength 27 = .ok (.iadd, 1) := by decide +kernel
theorem dX1_fibonacciLength_28 : decode cX1_fibonacciLength 28 = .ok (.iconst 2, 1) := by decide +kernel
theorem dX1_fibonacciLength_29 : decode cX1_fibonacciLength 29 = .ok (.idiv, 1) := by decide +kernel
theorem dX1_fibonacciLength_30 : decode cX1_fibonacciLength 30 = .ok (.istore 6, 2) := by decide +kernel
theorem dX1_fibonacciLength_32 : decode cX1_fibonacciLength 32 = .ok (.aload_n 0, 1) := by decide +kernel
theorem dX1_fibonacciLength_33 : decode cX1_fibonacciLength 33 = .ok (.getfield 24, 3) := by decide +kernel
theorem dX1_fibonacciLength_36 : decode cX1_fibonacciLength 36 = .ok (.iload 6, 2) := by decide +kernel
theorem dX1_fibonacciLength_38 : decode cX1_fibonacciLength 38 = .ok (.laload, 1) := by decide +kernel
theorem dX1_fibonacciLength_39 : decode cX1_fibonacciLength 39 = .ok (.lload_n 1, 1) := by decide +kernel
theorem dX1_fibonacciLength_40 : decode cX1_fibonacciLength 40 = .ok (.lcmp, 1) := by decide +kernel
theorem dX1_fibonacciLength_41 : decode cX1_fibonacciLength 41 = .ok (.ifCond .gt 9, 3) := by decide +kernel
theorem dX1_fibonacciLength_44 : decode cX1_fibonacciLength 44 = .ok (.iload 6, 2) := by decide +kernel
theorem dX1_fibonacciLength_46 : decode cX1_fibonacciLength 46 = .ok (.istore_n 3, 1) := by decide +kernel
theorem dX1_fibonacciLength_47 : decode cX1_fibonacciLength 47 = .ok (.goto 9, 3) := by decide +kernel
theorem dX1_fibonacciLength_50 : decode cX1_fibonacciLength 50 = .ok (.iload 6, 2) := by decide +kernel
theorem dX1_fibonacciLength_52 : decode cX1_fibonacciLength 52 = .ok (.iconst 1, 1) := by decide +kernel
theorem dX1_fibonacciLength_53 : decode cX1_fibonacciLength 53 = .ok (.isub, 1) := by decide +kernel
theorem dX1_fibonacciLength_54 : decode cX1_fibonacciLength 54 = .ok (.istore 4, 2) := by decide +kernel
theorem dX1_fibonacciLength_56 : decode cX1_fibonacciLength 56 = .ok (.iinc 5 1, 3) := by decide +kernel
theorem dX1_fibonacciLength_59 : decode cX1_fibonacciLength 59 = .ok (.goto (-50), 3) := by decide +kernel
theorem dX1_fibonacciLength_62 : decode cX1_fibonacciLength 62 = .ok (.iload_n 3, 1) := by decide +kernel
theorem dX1_fibonacciLength_63 : decode cX1_fibonacciLength 63 = .ok (.iconst 2, 1) := by decide +kernel
theorem dX1_fibonacciLength_64 : decode cX1_fibonacciLength 64 = .ok (.iadd, 1) := by decide +kernel
theorem dX1_fibonacciLength_65 : decode cX1_fibonacciLength 65 = .ok (.ireturn, 1) := by decide +kernel
set_option maxRecDepth 20000 in
theorem ggX1_golombLength_X1_golombWidth : GoodIn wsX1_golombLength wsX1_golombWidth := goodIn_r _ [4, 5, 6, 3, 7, 8, 9, 10, 11, 12, 13, 14, 15, 16] (by decide +kernel) (by decide +kernel)
set_option maxRecDepth 20000 in
theorem gX1_golombLength_X1_golombWidth : GoodIn wsX1_golombLength (va_wsS RX1 149 yX1_golombWidth wsX1_golombWidth) := goodIn_app (goodIn_of _ (by decide +kernel)) ggX1_golombLength_X1_golombWidth
set_option maxRecDepth 20000 in
theorem ggX1_golombLength_X1_golombShortRests : GoodIn wsX1_golombLength wsX1_golombShortRests := goodIn_r _ [19] (by decide +kernel) (by decide +kernel)
set_option maxRecDepth 20000 in
theorem gX1_golombLength_X1_golombShortRests : GoodIn wsX1_golombLength (va_wsS RX1 152 yX1_golombShortRests wsX1_golombShortRests) := goodIn_app (goodIn_of _ (by decide +kernel)) ggX1_golombLength_X1_golombShortRests
theorem dX1_golombLength_0 : decode cX1_golombLength 0 = .ok (.lload_n 1, 1) := by decide +kernel
theorem dX1_golombLength_1 : decode cX1_golombLength 1 = .ok (.lconst 1, 1) := by decide +kernel
theorem dX1_golombLength_2 : decode cX1_golombLength 2 = .ok (.lsub, 1) := by decide +kernel
theorem dX1_golombLength_3 : decode cX1_golombLength 3 = .ok (.iload_n 0, 1) := by decide +kernel
theorem dX1_golombLength_4 : decode cX1_golombLength 4 = .ok (.i2l, 1) := by decide +kernel
theorem dX1_golombLength_5 : decode cX1_golombLength 5 = .ok (.ldiv, 1) := by decide +kernel
theorem dX1_golombLength_6 : decode cX1_golombLength 6 = .ok (.lstore_n 3, 1) := by decide +kernel
theorem dX1_golombLength_7 : decode cX1_golombLength 7 = .ok (.lload_n 1, 1) := by decide +kernel
theorem dX1_golombLength_8 : decode cX1_golombLength 8 = .ok (.lconst 1, 1) := by decide +kernel
theorem dX1_golombLength_9 : decode cX1_golombLength 9 = .ok (.lsub, 1) := by decide +kernel
theorem dX1_golombLength_10 : decode cX1_golombLength 10 = .ok (.iload_n 0, 1) := by decide +kernel
theorem dX1_golombLength_11 : decode cX1_golombLength 11 = .ok (.i2l, 1) := by decide +kernel
theorem dX1_golombLength_12 : decode cX1_golombLength 12 = .ok (.lrem, 1) := by decide +kernel
theorem dX1_golombLength_13 : decode cX1_golombLength 13 = .ok (.lstore 5, 2) := by decide +kernel
theorem dX1_golombLength_15 : decode cX1_golombLength 15 = .ok (.iload_n 0, 1) := by decide +kernel
theorem dX1_golombLength_16 : decode cX1_golombLength 16 = .ok (.invokestatic 149, 3) := by decide +kernel
theorem dX1_golombLength_19 : decode cX1_golombLength 19 = .ok (.istore 7, 2) := by decide +kernel
theorem dX1_golombLength_21 : decode cX1_golombLength 21 = .ok (.lload_n 3, 1) := by decide +kernel
theorem dX1_golombLength_22 : decode cX1_golombLength 22 = .ok (.lload 5, 2) := by decide +kernel
theorem dX1_golombLength_24 : decode cX1_golombLength 24 = .ok (.iload_n 0, 1) := by decide +kernel
theorem dX1_golombLength_25 : decode cX1_golombLength 25 = .ok (.iload 7, 2) := by decide +kernel
theorem dX1_golombLength_27 : decode cX1_golombLength 27 = .ok (.invokestatic 152, 3) := by decide +kernel
theorem dX1_golombLength_30 : decode cX1_golombLength 30 = .ok (.lcmp, 1) := by decide +kernel
theorem dX1_golombLength_31 : decode cX1_golombLength 31 = .ok (.ifCond .ge 8, 3) := by decide +kernel
theorem dX1_golombLength_34 : decode cX1_golombLength 34 = .ok (.iload 7, 2) := by decide +kernel
theorem dX1_golombLength_36 : decode cX1_golombLength 36 = .ok (.goto 7, 3) := by decide +kernel
theorem dX1_golombLength_39 : decode cX1_golombLength 39 = .ok (.iload 7, 2) := by decide +kernel
theorem dX1_golombLength_41 : decode cX1_golombLength 41 = .ok (.iconst 1, 1) := by decide +kernel
theorem dX1_golombLength_42 : decode cX1_golombLength 42 = .ok (.iadd, 1) := by decide +kernel
theorem dX1_golombLength_43 : decode cX1_golombLength 43 = .ok (.i2l, 1) := by decide +kernel
theorem dX1_golombLength_44 : decode cX1_golombLength 44 = .ok (.ladd, 1) := by decide +kernel
theorem dX1_golombLength_45 : decode cX1_golombLength 45 = .ok (.lreturn, 1) := by decide +kernel
set_option maxRecDepth 20000 in
theorem ggX1_golombWidth_X1_bitLength : GoodIn wsX1_golombWidth wsX1_bitLength := goodIn_r _ [4, 5, 6, 7, 8, 9, 10, 11, 12, 13] (by decide +kernel) (by decide +kernel)
set_option maxRecDepth 20000 in
theorem gX1_golombWidth_X1_bitLength : GoodIn wsX1_golombWidth (va_wsS RX1 127 yX1_bitLength wsX1_bitLength) := goodIn_app (goodIn_of _ (by decide +kernel)) ggX1_golombWidth_X1_bitLength
theorem dX1_golombWidth_0 : decode cX1_golombWidth 0 = .ok (.iload_n 0, 1) := by decide +kernel
theorem dX1_golombWidth_1 : decode cX1_golombWidth 1 = .ok (.iconst 1, 1) := by decide +kernel
theorem dX1_golombWidth_2 : decode cX1_golombWidth 2 = .ok (.isub, 1) := by decide +kernel
theorem dX1_golombWidth_3 : decode cX1_golombWidth 3 = .ok (.i2l, 1) := by decide +kernel
theorem dX1_golombWidth_4 : decode cX1_golombWidth 4 = .ok (.invokestatic 127, 3) := by decide +kernel
theorem dX1_golombWidth_7 : decode cX1_golombWidth 7 = .ok (.ireturn, 1) := by decide +kernel
theorem dX1_golombShortRests_0 : decode cX1_golombShortRests 0 = .ok (.lconst 1, 1) := by decide +kernel
theorem dX1_golombShortRests_1 : decode cX1_golombShortRests 1 = .ok (.iload_n 1, 1) := by decide +kernel
theorem dX1_golombShortRests_2 : decode cX1_golombShortRests 2 = .ok (.lshl, 1) := by decide +kernel
theorem dX1_golombShortRests_3 : decode cX1_golombShortRests 3 = .ok (.iload_n 0, 1) := by decide +kernel
theorem dX1_golombShortRests_4 : decode cX1_golombShortRests 4 = .ok (.i2l, 1) := by decide +kernel
theorem dX1_golombShortRests_5 : decode cX1_golombShortRests 5 = .ok (.lsub, 1) := by decide +kernel
theorem dX1_golombShortRests_6 : decode cX1_golombShortRests 6 = .ok (.lreturn, 1) := by decide +kernel
set_option maxRecDepth 20000 in
theorem ggX1_groupsOf_X1_bitLength : GoodIn wsX1_groupsOf wsX1_bitLength := goodIn_r _ [8, 9, 10, 11, 12, 13, 14, 15, 16, 17] (by decide +kernel) (by decide +kernel)
set_option maxRecDepth 20000 in
theorem gX1_groupsOf_X1_bitLength : GoodIn wsX1_groupsOf (va_wsS RX1 127 yX1_bitLength wsX1_bitLength) := goodIn_app (goodIn_of _ (by decide +kernel)) ggX1_groupsOf_X1_bitLength
theorem dX1_groupsOf_0 : decode cX1_groupsOf 0 = .ok (.iconst 1, 1) := by decide +kernel
theorem dX1_groupsOf_1 : decode cX1_groupsOf 1 = .ok (.lload_n 1, 1) := by decide +kernel
theorem dX1_groupsOf_2 : decode cX1_groupsOf 2 = .ok (.lconst 1, 1) := by decide +kernel
theorem dX1_groupsOf_3 : decode cX1_groupsOf 3 = .ok (.lsub, 1) := by decide +kernel
theorem dX1_groupsOf_4 : decode cX1_groupsOf 4 = .ok (.invokestatic 127, 3) := by decide +kernel
theorem dX1_groupsOf_7 : decode cX1_groupsOf 7 = .ok (.iload_n 0, 1) := by decide +kernel
theorem dX1_groupsOf_8 : decode cX1_groupsOf 8 = .ok (.iadd, 1) := by decide +kernel
theorem dX1_groupsOf_9 : decode cX1_groupsOf 9 = .ok (.iconst 1, 1) := by decide +kernel
theorem dX1_groupsOf_10 : decode cX1_groupsOf 10 = .ok (.isub, 1) := by decide +kernel
theorem dX1_groupsOf_11 : decode cX1_groupsOf 11 = .ok (.iload_n 0, 1) := by decide +kernel
theorem dX1_groupsOf_12 : decode cX1_groupsOf 12 = .ok (.idiv, 1) := by decide +kernel
theorem dX1_groupsOf_13 : decode cX1_groupsOf 13 = .ok (.invokestatic 155, 3) := by decide +kernel
theorem dX1_groupsOf_16 : decode cX1_groupsOf 16 = .ok (.ireturn, 1) := by decide +kernel
set_option maxRecDepth 20000 in
theorem ggX1_listLength_X1_codewordLength : GoodIn wsX1_listLength wsX1_codewordLength := goodIn_r _ [8, 9, 10, 7, 11, 12, 13, 14, 15, 16, 17, 18, 19, 20, 21, 22, 23, 24, 25, 26, 27, 28, 29, 30, 31, 32, 33, 34, 35, 36, 37, 38, 39, 40, 41, 42, 43, 44, 45, 46, 47, 48, 49, 50, 51] (by decide +kernel) (by decide +kernel)
set_option maxRecDepth 20000 in
theorem gX1_listLength_X1_codewordLength : GoodIn wsX1_listLength (wsV RX1 37 RX1 yX1_codewordLength wsX1_codewordLength) := goodIn_app (goodIn_of _ (by decide +kernel)) ggX1_listLength_X1_codewordLength
theorem dX1_listLength_0 : decode cX1_listLength 0 = .ok (.lconst 0, 1) := by decide +kernel
theorem dX1_listLength_1 : decode cX1_listLength 1 = .ok (.lstore_n 3, 1) := by decide +kernel
theorem dX1_listLength_2 : decode cX1_listLength 2 = .ok (.iconst 0, 1) := by decide +kernel
theorem dX1_listLength_3 : decode cX1_listLength 3 = .ok (.istore 5, 2) := by decide +kernel
theorem dX1_listLength_5 : decode cX1_listLength 5 = .ok (.iload 5, 2) := by decide +kernel
theorem dX1_listLength_7 : decode cX1_listLength 7 = .ok (.aload_n 0, 1) := by decide +kernel
theorem dX1_listLength_8 : decode cX1_listLength 8 = .ok (.getfield 20, 3) := by decide +kernel
theorem dX1_listLength_11 : decode cX1_listLength 11 = .ok (.if_icmp .ge 44, 3) := by decide +kernel
theorem dX1_listLength_14 : decode cX1_listLength 14 = .ok (.aload_n 0, 1) := by decide +kernel
theorem dX1_listLength_15 : decode cX1_listLength 15 = .ok (.iload_n 1, 1) := by decide +kernel
theorem dX1_listLength_16 : decode cX1_listLength 16 = .ok (.iload_n 2, 1) := by decide +kernel
theorem dX1_listLength_17 : decode cX1_listLength 17 = .ok (.aload_n 0, 1) := by decide +kernel
theorem dX1_listLength_18 : decode cX1_listLength 18 = .ok (.getfield 16, 3) := by decide +kernel
theorem dX1_listLength_21 : decode cX1_listLength 21 = .ok (.iload 5, 2) := by decide +kernel
theorem dX1_listLength_23 : decode cX1_listLength 23 = .ok (.laload, 1) := by decide +kernel
theorem dX1_listLength_24 : decode cX1_listLength 24 = .ok (.invokevirtual 37, 3) := by decide +kernel
theorem dX1_listLength_27 : decode cX1_listLength 27 = .ok (.lstore 6, 2) := by decide +kernel
theorem dX1_listLength_29 : decode cX1_listLength 29 = .ok (.lload 6, 2) := by decide +kernel
theorem dX1_listLength_31 : decode cX1_listLength 31 = .ok (.ldc2_w 106, 3) := by decide +kernel
theorem dX1_listLength_34 : decode cX1_listLength 34 = .ok (.lload_n 3, 1) := by decide +kernel
theorem dX1_listLength_35 : decode cX1_listLength 35 = .ok (.lsub, 1) := by decide +kernel
theorem dX1_listLength_36 : decode cX1_listLength 36 = .ok (.lcmp, 1) := by decide +kernel
theorem dX1_listLength_37 : decode cX1_listLength 37 = .ok (.ifCond .le 7, 3) := by decide +kernel
theorem dX1_listLength_40 : decode cX1_listLength 40 = .ok (.ldc2_w 106, 3) := by decide +kernel
theorem dX1_listLength_43 : decode cX1_listLength 43 = .ok (.lreturn, 1) := by decide +kernel
theorem dX1_listLength_44 : decode cX1_listLength 44 = .ok (.lload_n 3, 1) := by decide +kernel
theorem dX1_listLength_45 : decode cX1_listLength 45 = .ok (.lload 6, 2) := by decide +kernel
theorem dX1_listLength_47 : decode cX1_listLength 47 = .ok (.ladd, 1) := by decide +kernel
theorem dX1_listLength_48 : decode cX1_listLength 48 = .ok (.lstore_n 3, 1) := by decide +kernel
theorem dX1_listLength_49 : decode cX1_listLength 49 = .ok (.iinc 5 1, 3) := by decide +kernel
theorem dX1_listLength_52 : decode cX1_listLength 52 = .ok (.goto (-47), 3) := by decide +kernel
theorem dX1_listLength_55 : decode cX1_listLength 55 = .ok (.lload_n 3, 1) := by decide +kernel
theorem dX1_listLength_56 : decode cX1_listLength 56 = .ok (.lreturn, 1) := by decide +kernel
set_option maxRecDepth 20000 in
theorem ggX1_leastReaching_X1_codewordLength : GoodIn wsX1_leastReaching wsX1_codewordLength := goodIn_r _ [7, 8, 9, 6, 10, 11, 12, 13, 14, 15, 16, 17, 18, 19, 20, 21, 22, 23, 24, 25, 26, 27, 28, 29, 30, 31, 32, 33, 34, 35, 36, 37, 38, 39, 40, 41, 42, 43, 44, 45, 46, 47, 48, 49, 50] (by decide +kernel) (by decide +kernel)
set_option maxRecDepth 20000 in
theorem gX1_leastReaching_X1_codewordLength : GoodIn wsX1_leastReaching (wsV RX1 37 RX1 yX1_codewordLength wsX1_codewordLength) := goodIn_app (goodIn_of _ (by decide +kernel)) ggX1_leastReaching_X1_codewordLength
theorem dX1_leastReaching_0 : decode cX1_leastReaching 0 = .ok (.lconst 1, 1) := by decide +kernel
theorem dX1_leastReaching_1 : decode cX1_leastReaching 1 = .ok (.lstore 4, 2) := by decide +kernel
theorem dX1_leastReaching_3 : decode cX1_leastReaching 3 = .ok (.ldc2_w 161, 3) := by decide +kernel
theorem dX1_leastReaching_6 : decode cX1_leastReaching 6 = .ok (.lstore 6, 2) := by decide +kernel
theorem dX1_leastReaching_8 : decode cX1_leastReaching 8 = .ok (.iconst 0, 1) := by decide +kernel
theorem dX1_leastReaching_9 : decode cX1_leastReaching 9 = .ok (.istore 8, 2) := by decide +kernel
theorem dX1_leastReaching_11 : decode cX1_leastReaching 11 = .ok (.iload 8, 2) := by decide +kernel
theorem dX1_leastReaching_13 : decode cX1_leastReaching 13 = .ok (.bipush 64, 2) := by decide +kernel
theorem dX1_leastReaching_15 : decode cX1_leastReaching 15 = .ok (.if_icmp .ge 58, 3) := by decide +kernel
theorem dX1_leastReaching_18 : decode cX1_leastReaching 18 = .ok (.lload 4, 2) := by decide +kernel
theorem dX1_leastReaching_20 : decode cX1_leastReaching 20 = .ok (.lload 6, 2) := by decide +kernel
theorem dX1_leastReaching_22 : decode cX1_leastReaching 22 = .ok (.lcmp, 1) := by decide +kernel
theorem dX1_leastReaching_23 : decode cX1_leastReaching 23 = .ok (.ifCond .ge 50, 3) := by decide +kernel
theorem dX1_leastReaching_26 : decode cX1_leastReaching 26 = .ok (.lload 4, 2) := by decide +kernel
theorem dX1_leastReaching_28 : decode cX1_leastReaching 28 = .ok (.lload 6, 2) := by decide +kernel
theorem dX1_leastReaching_30 : decode cX1_leastReaching 30 = .ok (.lload 4, 2) := by decide +kernel
theorem dX1_leastReaching_32 : decode cX1_leastReaching 32 = .ok (.lsub, 1) := by decide +kernel
theorem dX1_leastReaching_33 : decode cX1_leastReaching 33 = .ok (.ldc2_w 27, 3) := by decide +kernel
theorem dX1_leastReaching_36 : decode cX1_leastReaching 36 = .ok (.ldiv, 1) := by decide +kernel
theorem dX1_leastReaching_37 : decode cX1_leastReaching 37 = .ok (.ladd, 1) := by decide +kernel
theorem dX1_leastReaching_38 : decode cX1_leastReaching 38 = .ok (.lstore 9, 2) := by decide +kernel
theorem dX1_leastReaching_40 : decode cX1_leastReaching 40 = .ok (.aload_n 0, 1) := by decide +kernel
theorem dX1_leastReaching_41 : decode cX1_leastReaching 41 = .ok (.iload_n 1, 1) := by decide +kernel
theorem dX1_leastReaching_42 : decode cX1_leastReaching 42 = .ok (.iload_n 2, 1) := by decide +kernel
theorem dX1_leastReaching_43 : decode cX1_leastReaching 43 = .ok (.lload 9, 2) := by decide +kernel
theorem dX1_leastReaching_45 : decode cX1_leastReaching 45 = .ok (.invokevirtual 37, 3) := by decide +kernel
theorem dX1_leastReaching_48 : decode cX1_leastReaching 48 = .ok (.iload_n 3, 1) := by decide +kernel
theorem dX1_leastReaching_49 : decode cX1_leastReaching 49 = .ok (.i2l, 1) := by decide +kernel
theorem dX1_leastReaching_50 : decode cX1_leastReaching 50 = .ok (.lcmp, 1) := by decide +kernel
theorem dX1_leastReaching_51 : decode cX1_leastReaching 51 = .ok (.ifCond .ge 12, 3) := by decide +kernel
theorem dX1_leastReaching_54 : decode cX1_leastReaching 54 = .ok (.lload 9, 2) := by decide +kernel
theorem dX1_leastReaching_56 : decode cX1_leastReaching 56 = .ok (.lconst 1, 1) := by decide +kernel
theorem dX1_leastReaching_57 : decode cX1_leastReaching 57 = .ok (.ladd, 1) := by decide +kernel
theorem dX1_leastReaching_58 : decode cX1_leastReaching 58 = .ok (.lstore 4, 2) := by decide +kernel
theorem dX1_leastReaching_60 : decode cX1_leastReaching 60 = .ok (.goto 7, 3) := by decide +kernel
theorem dX1_leastReaching_63 : decode cX1_leastReaching 63 = .ok (.lload 9, 2) := by decide +kernel
theorem dX1_leastReaching_65 : decode cX1_leastReaching 65 = .ok (.lstore 6, 2) := by decide +kernel
theorem dX1_leastReaching_67 : decode cX1_leastReaching 67 = .ok (.iinc 8 1, 3) := by decide +kernel
theorem dX1_leastReaching_70 : decode cX1_leastReaching 70 = .ok (.goto (-59), 3) := by decide +kernel
theorem dX1_leastReaching_73 : decode cX1_leastReaching 73 = .ok (.lload 4, 2) := by decide +kernel
theorem dX1_leastReaching_75 : decode cX1_leastReaching 75 = .ok (.lreturn, 1) := by decide +kernel
set_option maxRecDepth 20000 in
theorem ggX1_appendIfRoom_X1_codewordLength : GoodIn wsX1_appendIfRoom wsX1_codewordLength := goodIn_r _ [6, 7, 8, 5, 9, 10, 11, 12, 13, 14, 15, 16, 17, 18, 19, 20, 21, 22, 23, 24, 25, 26, 27, 28, 29, 30, 31, 32, 33, 34, 35, 36, 37, 38, 39, 40, 41, 42, 43, 44, 45, 94, 95, 96, 97] (by decide +kernel) (by decide +kernel)
set_option maxRecDepth 20000 in
theorem gX1_appendIfRoom_X1_codewordLength : GoodIn wsX1_appendIfRoom (wsV RX1 37 RX1 yX1_codewordLength wsX1_codewordLength) := goodIn_app (goodIn_of _ (by decide +kernel)) ggX1_appendIfRoom_X1_codewordLength
set_option maxRecDepth 20000 in
theorem ggX1_appendIfRoom_X0_room : GoodIn wsX1_appendIfRoom wsX0_room := goodIn_r _ [50, 51, 98, 99, 100, 101] (by decide +kernel) (by decide +kernel)
set_option maxRecDepth 20000 in
theorem gX1_appendIfRoom_X0_room : GoodIn wsX1_appendIfRoom (wsV RX1 59 RX0 yX0_room wsX0_room) := goodIn_app (goodIn_of _ (by decide +kernel)) ggX1_appendIfRoom_X0_room
set_option maxRecDepth 20000 in
theorem ggX1_appendIfRoom_X1_appendCodeword : GoodIn wsX1_appendIfRoom wsX1_appendCodeword := goodIn_r _ [55, 1, 56, 57, 58, 49, 59, 51, 60, 61, 62, 63, 64, 65, 66, 67, 5, 68, 10, 11, 12, 13, 14, 15, 16, 17, 18, 19, 20, 21, 69, 70, 71, 72, 73, 74, 75, 76, 77, 78, 79, 80, 22, 23, 24, 81, 82, 83, 84, 85, 29, 25, 26, 27, 28, 86, 87, 88, 89, 33, 34, 35, 36, 37, 38, 90, 91, 92, 93, 39, 40, 41, 42, 43, 44, 45, 94, 95, 96, 97, 98, 99, 100, 101] (by decide +kernel) (by decide +kernel)
set_option maxRecDepth 20000 in
theorem gX1_appendIfRoom_X1_appendCodeword : GoodIn wsX1_appendIfRoom (wsV RX1 163 RX1 yX1_appendCodeword wsX1_appendCodeword) := goodIn_app (goodIn_of _ (by decide +kernel)) ggX1_appendIfRoom_X1_appendCodeword
theorem dX1_appendIfRoom_0 : decode cX1_appendIfRoom 0 = .ok (.aload_n 0, 1) := by decide +kernel
theorem dX1_appendIfRoom_1 : decode cX1_appendIfRoom 1 = .ok (.iload_n 1, 1) := by decide +kernel
theorem dX1_appendIfRoom_2 : decode cX1_appendIfRoom 2 = .ok (.iload_n 2, 1) := by decide +kernel
theorem dX1_appendIfRoom_3 : decode cX1_appendIfRoom 3 = .ok (.lload_n 3, 1) := by decide +kernel
theorem dX1_appendIfRoom_4 : decode cX1_appendIfRoom 4 = .ok (.invokevirtual 37, 3) := by decide +kernel
theorem dX1_appendIfRoom_7 : decode cX1_appendIfRoom 7 = .ok (.aload_n 0, 1) := by decide +kernel
theorem dX1_appendIfRoom_8 : decode cX1_appendIfRoom 8 = .ok (.getfield 12, 3) := by decide +kernel
theorem dX1_appendIfRoom_11 : decode cX1_appendIfRoom 11 = .ok (.invokevirtual 59, 3) := by decide +kernel
theorem dX1_appendIfRoom_14 : decode cX1_appendIfRoom 14 = .ok (.i2l, 1) := by decide +kernel
theorem dX1_appendIfRoom_15 : decode cX1_appendIfRoom 15 = .ok (.lcmp, 1) := by decide +kernel
theorem dX1_appendIfRoom_16 : decode cX1_appendIfRoom 16 = .ok (.ifCond .le 5, 3) := by decide +kernel
theorem dX1_appendIfRoom_19 : decode cX1_appendIfRoom 19 = .ok (.iconst 0, 1) := by decide +kernel
theorem dX1_appendIfRoom_20 : decode cX1_appendIfRoom 20 = .ok (.ireturn, 1) := by decide +kernel
theorem dX1_appendIfRoom_21 : decode cX1_appendIfRoom 21 = .ok (.aload_n 0, 1) := by decide +kernel
theorem dX1_appendIfRoom_22 : decode cX1_appendIfRoom 22 = .ok (.iload_n 1, 1) := by decide +kernel
theorem dX1_appendIfRoom_23 : decode cX1_appendIfRoom 23 = .ok (.iload_n 2, 1) := by decide +kernel
theorem dX1_appendIfRoom_24 : decode cX1_appendIfRoom 24 = .ok (.lload_n 3, 1) := by decide +kernel
theorem dX1_appendIfRoom_25 : decode cX1_appendIfRoom 25 = .ok (.invokevirtual 163, 3) := by decide +kernel
theorem dX1_appendIfRoom_28 : decode cX1_appendIfRoom 28 = .ok (.iconst 1, 1) := by decide +kernel
theorem dX1_appendIfRoom_29 : decode cX1_appendIfRoom 29 = .ok (.ireturn, 1) := by decide +kernel
set_option maxRecDepth 20000 in
theorem ggX1_appendCodeword_X0_appendOnesAndZero : GoodIn wsX1_appendCodeword wsX0_appendOnesAndZero := goodIn_r _ [6, 7, 8, 9, 10, 5, 11, 12, 80, 81, 82, 83] (by decide +kernel) (by decide +kernel)
set_option maxRecDepth 20000 in
theorem gX1_appendCodeword_X0_appendOnesAndZero : GoodIn wsX1_appendCodeword (wsV RX1 167 RX0 yX0_appendOnesAndZero wsX0_appendOnesAndZero) := goodIn_app (goodIn_of _ (by decide +kernel)) ggX1_appendCodeword_X0_appendOnesAndZero
set_option maxRecDepth 20000 in
theorem ggX1_appendCodeword_X1_appendGamma : GoodIn wsX1_appendCodeword wsX1_appendGamma := goodIn_r _ [17, 1, 18, 19, 16, 20, 21, 22, 23, 24, 25, 26, 27, 28, 29, 30, 31, 32, 5, 33, 7, 34, 35, 36, 37, 8, 9, 10, 11, 12, 76, 77, 78, 79, 80, 81, 82, 83] (by decide +kernel) (by decide +kernel)
set_option maxRecDepth 20000 in
theorem gX1_appendCodeword_X1_appendGamma : GoodIn wsX1_appendCodeword (wsV RX1 170 RX1 yX1_appendGamma wsX1_appendGamma) := goodIn_app (goodIn_of _ (by decide +kernel)) ggX1_appendCodeword_X1_appendGamma
set_option maxRecDepth 20000 in
theorem ggX1_appendCodeword_X1_bitLength : GoodIn wsX1_appendCodeword wsX1_bitLength := goodIn_r _ [20, 21, 22, 23, 24, 25, 26, 27, 28, 29] (by decide +kernel) (by decide +kernel)
set_option maxRecDepth 20000 in
theorem gX1_appendCodeword_X1_bitLength : GoodIn wsX1_appendCodeword (va_wsS RX1 127 yX1_bitLength wsX1_bitLength) := goodIn_app (goodIn_of _ (by decide +kernel)) ggX1_appendCodeword_X1_bitLength
set_option maxRecDepth 20000 in
theorem ggX1_appendCodeword_X0_appendBits : GoodIn wsX1_appendCodeword wsX0_appendBits := goodIn_r _ [33, 7, 34, 35, 36, 5, 37, 8, 9, 10, 11, 12, 80, 81, 82, 83] (by decide +kernel) (by decide +kernel)
set_option maxRecDepth 20000 in
theorem gX1_appendCodeword_X0_appendBits : GoodIn wsX1_appendCodeword (wsV RX1 63 RX0 yX0_appendBits wsX0_appendBits) := goodIn_app (goodIn_of _ (by decide +kernel)) ggX1_appendCodeword_X0_appendBits
set_option maxRecDepth 20000 in
theorem ggX1_appendCodeword_X1_appendOmega : GoodIn wsX1_appendCodeword wsX1_appendOmega := goodIn_r _ [41, 1, 42, 43, 16, 44, 18, 19, 20, 21, 22, 23, 24, 25, 26, 27, 28, 29, 45, 35, 36, 5, 37, 8, 9, 10, 11, 12, 76, 77, 78, 79, 80, 81, 82, 83] (by decide +kernel) (by decide +kernel)
set_option maxRecDepth 20000 in
theorem gX1_appendCodeword_X1_appendOmega : GoodIn wsX1_appendCodeword (wsV RX1 173 RX1 yX1_appendOmega wsX1_appendOmega) := goodIn_app (goodIn_of _ (by decide +kernel)) ggX1_appendCodeword_X1_appendOmega
set_option maxRecDepth 20000 in
theorem ggX1_appendCodeword_X1_appendFibonacci : GoodIn wsX1_appendCodeword wsX1_appendFibonacci := goodIn_r _ [49, 50, 1, 51, 52, 53, 16, 54, 45, 35, 36, 5, 37, 8, 9, 10, 11, 12, 76, 77, 78, 79, 80, 81, 82, 83] (by decide +kernel) (by decide +kernel)
set_option maxRecDepth 20000 in
theorem gX1_appendCodeword_X1_appendFibonacci : GoodIn wsX1_appendCodeword (wsV RX1 176 RX1 yX1_appendFibonacci wsX1_appendFibonacci) := goodIn_app (goodIn_of _ (by decide +kernel)) ggX1_appendCodeword_X1_appendFibonacci
set_option maxRecDepth 20000 in
theorem ggX1_appendCodeword_X1_appendGolomb : GoodIn wsX1_appendCodeword wsX1_appendGolomb := goodIn_r _ [58, 1, 2, 3, 4, 5, 6, 7, 8, 9, 10, 11, 12, 59, 60, 16, 61, 18, 19, 20, 21, 22, 23, 24, 25, 26, 27, 28, 29, 62, 63, 64, 30, 31, 32, 33, 34, 35, 36, 37, 76, 77, 78, 79, 80, 81, 82, 83] (by decide +kernel) (by decide +kernel)
set_option maxRecDepth 20000 in
theorem gX1_appendCodeword_X1_appendGolomb : GoodIn wsX1_appendCodeword (wsV RX1 179 RX1 yX1_appendGolomb wsX1_appendGolomb) := goodIn_app (goodIn_of _ (by decide +kernel)) ggX1_appendCodeword_X1_appendGolomb
set_option maxRecDepth 20000 in
theorem ggX1_appendCodeword_X1_appendGroups : GoodIn wsX1_appendCodeword wsX1_appendGroups := goodIn_r _ [68, 1, 69, 70, 16, 71, 72, 73, 74, 75, 18, 19, 20, 21, 22, 23, 24, 25, 26, 27, 28, 29, 30, 31, 32, 5, 33, 7, 34, 35, 36, 37, 8, 9, 10, 11, 12, 76, 77, 78, 79, 80, 81, 82, 83] (by decide +kernel) (by decide +kernel)
set_option maxRecDepth 20000 in
theorem gX1_appendCodeword_X1_appendGroups : GoodIn wsX1_appendCodeword (wsV RX1 183 RX1 yX1_appendGroups wsX1_appendGroups) := goodIn_app (goodIn_of _ (by decide +kernel)) ggX1_appendCodeword_X1_appendGroups
theorem dX1_appendCodeword_0 : decode cX1_appendCodeword 0 = .ok (.iload_n 1, 1) := by decide +kernel
theorem dX1_appendCodeword_1 : decode cX1_appendCodeword 1 = .ok (.tableswitch 140 0 6 #[43, 56, 64, 90, 98, 106, 115], 43) := by decide +kernel
theorem dX1_appendCodeword_44 : decode cX1_appendCodeword 44 = .ok (.aload_n 0, 1) := by decide +kernel
theorem dX1_appendCodeword_45 : decode cX1_appendCodeword 45 = .ok (.getfield 12, 3) := by decide +kernel
theorem dX1_appendCodeword_48 : decode cX1_appendCodeword 48 = .ok (.lload_n 3, 1) := by decide +kernel
theorem dX1_appendCodeword_49 : decode cX1_appendCodeword 49 = .ok (.lconst 1, 1) := by decide +kernel
theorem dX1_appendCodeword_50 : decode cX1_appendCodeword 50 = .ok (.lsub, 1) := by decide +kernel
theorem dX1_appendCodeword_51 : decode cX1_appendCodeword 51 = .ok (.invokevirtual 167, 3) := by decide +kernel
theorem dX1_appendCodeword_54 : decode cX1_appendCodeword 54 = .ok (.goto 93, 3) := by decide +kernel
theorem dX1_appendCodeword_57 : decode cX1_appendCodeword 57 = .ok (.aload_n 0, 1) := by decide +kernel
theorem dX1_appendCodeword_58 : decode cX1_appendCodeword 58 = .ok (.lload_n 3, 1) := by decide +kernel
theorem dX1_appendCodeword_59 : decode cX1_appendCodeword 59 = .ok (.invokevirtual 170, 3) := by decide +kernel
theorem dX1_appendCodeword_62 : decode cX1_appendCodeword 62 = .ok (.goto 85, 3) := by decide +kernel
theorem dX1_appendCodeword_65 : decode cX1_appendCodeword 65 = .ok (.aload_n 0, 1) := by decide +kernel
theorem dX1_appendCodeword_66 : decode cX1_appendCodeword 66 = .ok (.lload_n 3, 1) := by decide +kernel
theorem dX1_appendCodeword_67 : decode cX1_appendCodeword 67 = .ok (.invokestatic 127, 3) := by decide +kernel
theorem dX1_appendCodeword_70 : decode cX1_appendCodeword 70 = .ok (.i2l, 1) := by decide +kernel
theorem dX1_appendCodeword_71 : decode cX1_appendCodeword 71 = .ok (.invokevirtual 170, 3) := by decide +kernel
theorem dX1_appendCodeword_74 : decode cX1_appendCodeword 74 = .ok (.aload_n 0, 1) := by decide +kernel
theorem dX1_appendCodeword_75 : decode cX1_appendCodeword 75 = .ok (.getfield 12, 3) := by decide +kernel
theorem dX1_appendCodeword_78 : decode cX1_appendCodeword 78 = .ok (.lload_n 3, 1) := by decide +kernel
theorem dX1_appendCodeword_79 : decode cX1_appendCodeword 79 = .ok (.lload_n 3, 1) := by decide +kernel
theorem dX1_appendCodeword_80 : decode cX1_appendCodeword 80 = .ok (.invokestatic 127, 3) := by decide +kernel
theorem dX1_appendCodeword_83 : decode cX1_appendCodeword 83 = .ok (.iconst 1, 1) := by decide +kernel
theorem dX1_appendCodeword_84 : decode cX1_appendCodeword 84 = .ok (.isub, 1) := by decide +kernel
theorem dX1_appendCodeword_85 : decode cX1_appendCodeword 85 = .ok (.invokevirtual 63, 3) := by decide +kernel
theorem dX1_appendCodeword_88 : decode cX1_appendCodeword 88 = .ok (.goto 59, 3) := by decide +kernel
theorem dX1_appendCodeword_91 : decode cX1_appendCodeword 91 = .ok (.aload_n 0, 1) := by decide +kernel
theorem dX1_appendCodeword_92 : decode cX1_appendCodeword 92 = .ok (.lload_n 3, 1) := by decide +kernel
theorem dX1_appendCodeword_93 : decode cX1_appendCodeword 93 = .ok (.invokevirtual 173, 3) := by decide +kernel
theorem dX1_appendCodeword_96 : decode cX1_appendCodeword 96 = .ok (.goto 51, 3) := by decide +kernel
theorem dX1_appendCodeword_99 : decode cX1_appendCodeword 99 = .ok (.aload_n 0, 1) := by decide +kernel
theorem dX1_appendCodeword_100 : decode cX1_appendCodeword 100 = .ok (.lload_n 3, 1) := by decide +kernel
theorem dX1_appendCodeword_101 : decode cX1_appendCodeword 101 = .ok (.invokevirtual 176, 3) := by decide +kernel
theorem dX1_appendCodeword_104 : decode cX1_appendCodeword 104 = .ok (.goto 43, 3) := by decide +kernel
theorem dX1_appendCodeword_107 : decode cX1_appendCodeword 107 = .ok (.aload_n 0, 1) := by decide +kernel
theorem dX1_appendCodeword_108 : decode cX1_appendCodeword 108 = .ok (.iload_n 2, 1) := by decide +kernel
theorem dX1_appendCodeword_109 : decode cX1_appendCodeword 109 = .ok (.lload_n 3, 1) := by decide +kernel
theorem dX1_appendCodeword_110 : decode cX1_appendCodeword 110 = .ok (.invokevirtual 179, 3) := by decide +kernel
theorem dX1_appendCodeword_113 : decode cX1_appendCodeword 113 = .ok (.goto 34, 3) := by decide +kernel
theorem dX1_appendCodeword_116 : decode cX1_appendCodeword 116 = .ok (.aload_n 0, 1) := by decide +kernel
theorem dX1_appendCodeword_117 : decode cX1_appendCodeword 117 = .ok (.lload_n 3, 1) := by decide +kernel
theorem dX1_appendCodeword_118 : decode cX1_appendCodeword 118 = .ok (.lconst 1, 1) := by decide +kernel
theorem dX1_appendCodeword_119 : decode cX1_appendCodeword 119 = .ok (.lsub, 1) := by decide +kernel
theorem dX1_appendCodeword_120 : decode cX1_appendCodeword 120 = .ok (.iload_n 2, 1) := by decide +kernel
theorem dX1_appendCodeword_121 : decode cX1_appendCodeword 121 = .ok (.lshr, 1) := by decide +kernel
theorem dX1_appendCodeword_122 : decode cX1_appendCodeword 122 = .ok (.lconst 1, 1) := by decide +kernel
theorem dX1_appendCodeword_123 : decode cX1_appendCodeword 123 = .ok (.ladd, 1) := by decide +kernel
theorem dX1_appendCodeword_124 : decode cX1_appendCodeword 124 = .ok (.invokevirtual 170, 3) := by decide +kernel
theorem dX1_appendCodeword_127 : decode cX1_appendCodeword 127 = .ok (.aload_n 0, 1) := by decide +kernel
theorem dX1_appendCodeword_128 : decode cX1_appendCodeword 128 = .ok (.getfield 12, 3) := by decide +kernel
theorem dX1_appendCodeword_131 : decode cX1_appendCodeword 131 = .ok (.lload_n 3, 1) := by decide +kernel
theorem dX1_appendCodeword_132 : decode cX1_appendCodeword 132 = .ok (.lconst 1, 1) := by decide +kernel
theorem dX1_appendCodeword_133 : decode cX1_appendCodeword 133 = .ok (.lsub, 1) := by decide +kernel
theorem dX1_appendCodeword_134 : decode cX1_appendCodeword 134 = .ok (.iload_n 2, 1) := by decide +kernel
theorem dX1_appendCodeword_135 : decode cX1_appendCodeword 135 = .ok (.invokevirtual 63, 3) := by decide +kernel
theorem dX1_appendCodeword_138 : decode cX1_appendCodeword 138 = .ok (.goto 9, 3) := by decide +kernel
theorem dX1_appendCodeword_141 : decode cX1_appendCodeword 141 = .ok (.aload_n 0, 1) := by decide +kernel
theorem dX1_appendCodeword_142 : decode cX1_appendCodeword 142 = .ok (.iload_n 2, 1) := by decide +kernel
theorem dX1_appendCodeword_143 : decode cX1_appendCodeword 143 = .ok (.lload_n 3, 1) := by decide +kernel
theorem dX1_appendCodeword_144 : decode cX1_appendCodeword 144 = .ok (.invokevirtual 183, 3) := by decide +kernel
theorem dX1_appendCodeword_147 : decode cX1_appendCodeword 147 = .ok (.return_, 1) := by decide +kernel
set_option maxRecDepth 20000 in
theorem ggX1_appendGamma_X1_bitLength : GoodIn wsX1_appendGamma wsX1_bitLength := goodIn_r _ [5, 6, 7, 8, 9, 10, 11, 12, 13, 14] (by decide +kernel) (by decide +kernel)
set_option maxRecDepth 20000 in
theorem gX1_appendGamma_X1_bitLength : GoodIn wsX1_appendGamma (va_wsS RX1 127 yX1_bitLength wsX1_bitLength) := goodIn_app (goodIn_of _ (by decide +kernel)) ggX1_appendGamma_X1_bitLength
set_option maxRecDepth 20000 in
theorem ggX1_appendGamma_X0_appendBits : GoodIn wsX1_appendGamma wsX0_appendBits := goodIn_r _ [19, 20, 21, 22, 23, 18, 24, 25, 26, 27, 28, 29, 34, 35, 36, 37] (by decide +kernel) (by decide +kernel)
set_option maxRecDepth 20000 in
theorem gX1_appendGamma_X0_appendBits : GoodIn wsX1_appendGamma (wsV RX1 63 RX0 yX0_appendBits wsX0_appendBits) := goodIn_app (goodIn_of _ (by decide +kernel)) ggX1_appendGamma_X0_appendBits
theorem dX1_appendGamma_0 : decode cX1_appendGamma 0 = .ok (.aload_n 0, 1) := by decide +kernel
theorem dX1_appendGamma_1 : decode cX1_appendGamma 1 = .ok (.getfield 12, 3) := by decide +kernel
theorem dX1_appendGamma_4 : decode cX1_appendGamma 4 = .ok (.lconst 0, 1) := by decide +kernel
theorem dX1_appendGamma_5 : decode cX1_appendGamma 5 = .ok (.lload_n 1, 1) := by decide +kernel
theorem dX1_appendGamma_6 : decode cX1_appendGamma 6 = .ok (.invokestatic 127, 3) := by decide +kernel
theorem dX1_appendGamma_9 : decode cX1_appendGamma 9 = .ok (.iconst 1, 1) := by decide +kernel
theorem dX1_appendGamma_10 : decode cX1_appendGamma 10 = .ok (.isub, 1) := by decide +kernel
theorem dX1_appendGamma_11 : decode cX1_appendGamma 11 = .ok (.invokevirtual 63, 3) := by decide +kernel
theorem dX1_appendGamma_14 : decode cX1_appendGamma 14 = .ok (.aload_n 0, 1) := by decide +kernel
theorem dX1_appendGamma_15 : decode cX1_appendGamma 15 = .ok (.getfield 12, 3) := by decide +kernel
theorem dX1_appendGamma_18 : decode cX1_appendGamma 18 = .ok (.lload_n 1, 1) := by decide +kernel
theorem dX1_appendGamma_19 : decode cX1_appendGamma 19 = .ok (.lload_n 1, 1) := by decide +kernel
theorem dX1_appendGamma_20 : decode cX1_appendGamma 20 = .ok (.invokestatic 127, 3) := by decide +kernel
theorem dX1_appendGamma_23 : decode cX1_appendGamma 23 = .ok (.invokevirtual 63, 3) := by decide +kernel
theorem dX1_appendGamma_26 : decode cX1_appendGamma 26 = .ok (.return_, 1) := by decide +kernel
set_option maxRecDepth 20000 in
theorem ggX1_appendOmega_X1_omegaLength : GoodIn wsX1_appendOmega wsX1_omegaLength := goodIn_r _ [5, 6, 7, 4, 8, 9, 10, 11, 12, 13, 14, 15, 16, 17] (by decide +kernel) (by decide +kernel)
set_option maxRecDepth 20000 in
theorem gX1_appendOmega_X1_omegaLength : GoodIn wsX1_appendOmega (va_wsS RX1 130 yX1_omegaLength wsX1_omegaLength) := goodIn_app (goodIn_of _ (by decide +kernel)) ggX1_appendOmega_X1_omegaLength
set_option maxRecDepth 20000 in
theorem ggX1_appendOmega_X1_bitLength : GoodIn wsX1_appendOmega wsX1_bitLength := goodIn_r _ [8, 9, 10, 11, 12, 13, 14, 15, 16, 17] (by decide +kernel) (by decide +kernel)
set_option maxRecDepth 20000 in
theorem gX1_appendOmega_X1_bitLength : GoodIn wsX1_appendOmega (va_wsS RX1 127 yX1_bitLength wsX1_bitLength) := goodIn_app (goodIn_of _ (by decide +kernel)) ggX1_appendOmega_X1_bitLength
set_option maxRecDepth 20000 in
theorem ggX1_appendOmega_X0_writeBits : GoodIn wsX1_appendOmega wsX0_writeBits := goodIn_r _ [22, 23, 24, 25, 21, 26, 27, 32, 33, 34, 35] (by decide +kernel) (by decide +kernel)
set_option maxRecDepth 20000 in
theorem gX1_appendOmega_X0_writeBits : GoodIn wsX1_appendOmega (wsV RX1 186 RX0 yX0_writeBits wsX0_writeBits) := goodIn_app (goodIn_of _ (by decide +kernel)) ggX1_appendOmega_X0_writeBits
theorem dX1_appendOmega_0 : decode cX1_appendOmega 0 = .ok (.lload_n 1, 1) := by decide +kernel
theorem dX1_appendOmega_1 : decode cX1_appendOmega 1 = .ok (.invokestatic 130, 3) := by decide +kernel
theorem dX1_appendOmega_4 : decode cX1_appendOmega 4 = .ok (.istore_n 3, 1) := by decide +kernel
theorem dX1_appendOmega_5 : decode cX1_appendOmega 5 = .ok (.aload_n 0, 1) := by decide +kernel
theorem dX1_appendOmega_6 : decode cX1_appendOmega 6 = .ok (.getfield 12, 3) := by decide +kernel
theorem dX1_appendOmega_9 : decode cX1_appendOmega 9 = .ok (.getfield 45, 3) := by decide +kernel
theorem dX1_appendOmega_12 : decode cX1_appendOmega 12 = .ok (.iload_n 3, 1) := by decide +kernel
theorem dX1_appendOmega_13 : decode cX1_appendOmega 13 = .ok (.iadd, 1) := by decide +kernel
theorem dX1_appendOmega_14 : decode cX1_appendOmega 14 = .ok (.iconst 1, 1) := by decide +kernel
theorem dX1_appendOmega_15 : decode cX1_appendOmega 15 = .ok (.isub, 1) := by decide +kernel
theorem dX1_appendOmega_16 : decode cX1_appendOmega 16 = .ok (.istore 4, 2) := by decide +kernel
theorem dX1_appendOmega_18 : decode cX1_appendOmega 18 = .ok (.lload_n 1, 1) := by decide +kernel
theorem dX1_appendOmega_19 : decode cX1_appendOmega 19 = .ok (.lstore 5, 2) := by decide +kernel
theorem dX1_appendOmega_21 : decode cX1_appendOmega 21 = .ok (.iconst 0, 1) := by decide +kernel
theorem dX1_appendOmega_22 : decode cX1_appendOmega 22 = .ok (.istore 7, 2) := by decide +kernel
theorem dX1_appendOmega_24 : decode cX1_appendOmega 24 = .ok (.iload 7, 2) := by decide +kernel
theorem dX1_appendOmega_26 : decode cX1_appendOmega 26 = .ok (.bipush 8, 2) := by decide +kernel
theorem dX1_appendOmega_28 : decode cX1_appendOmega 28 = .ok (.if_icmp .ge 50, 3) := by decide +kernel
theorem dX1_appendOmega_31 : decode cX1_appendOmega 31 = .ok (.lload 5, 2) := by decide +kernel
theorem dX1_appendOmega_33 : decode cX1_appendOmega 33 = .ok (.lconst 1, 1) := by decide +kernel
theorem dX1_appendOmega_34 : decode cX1_appendOmega 34 = .ok (.lcmp, 1) := by decide +kernel
theorem dX1_appendOmega_35 : decode cX1_appendOmega 35 = .ok (.ifCond .le 43, 3) := by decide +kernel
theorem dX1_appendOmega_38 : decode cX1_appendOmega 38 = .ok (.lload 5, 2) := by decide +kernel
theorem dX1_appendOmega_40 : decode cX1_appendOmega 40 = .ok (.invokestatic 127, 3) := by decide +kernel
theorem dX1_appendOmega_43 : decode cX1_appendOmega 43 = .ok (.istore 8, 2) := by decide +kernel
theorem dX1_appendOmega_45 : decode cX1_appendOmega 45 = .ok (.iload 4, 2) := by decide +kernel
theorem dX1_appendOmega_47 : decode cX1_appendOmega 47 = .ok (.iload 8, 2) := by decide +kernel
theorem dX1_appendOmega_49 : decode cX1_appendOmega 49 = .ok (.isub, 1) := by decide +kernel
theorem dX1_appendOmega_50 : decode cX1_appendOmega 50 = .ok (.istore 4, 2) := by decide +kernel
theorem dX1_appendOmega_52 : decode cX1_appendOmega 52 = .ok (.aload_n 0, 1) := by decide +kernel
theorem dX1_appendOmega_53 : decode cX1_appendOmega 53 = .ok (.getfield 12, 3) := by decide +kernel
theorem dX1_appendOmega_56 : decode cX1_appendOmega 56 = .ok (.iload 4, 2) := by decide +kernel
theorem dX1_appendOmega_58 : decode cX1_appendOmega 58 = .ok (.lload 5, 2) := by decide +kernel
theorem dX1_appendOmega_60 : decode cX1_appendOmega 60 = .ok (.iload 8, 2) := by decide +kernel
theorem dX1_appendOmega_62 : decode cX1_appendOmega 62 = .ok (.invokevirtual 186, 3) := by decide +kernel
theorem dX1_appendOmega_65 : decode cX1_appendOmega 65 = .ok (.iload 8, 2) := by decide +kernel
theorem dX1_appendOmega_67 : decode cX1_appendOmega 67 = .ok (.iconst 1, 1) := by decide +kernel
theorem dX1_appendOmega_68 : decode cX1_appendOmega 68 = .ok (.isub, 1) := by decide +kernel
theorem dX1_appendOmega_69 : decode cX1_appendOmega 69 = .ok (.i2l, 1) := by decide +kernel
theorem dX1_appendOmega_70 : decode cX1_appendOmega 70 = .ok (.lstore 5, 2) := by decide +kernel
theorem dX1_appendOmega_72 : decode cX1_appendOmega 72 = .ok (.iinc 7 1, 3) := by decide +kernel
theorem dX1_appendOmega_75 : decode cX1_appendOmega 75 = .ok (.goto (-51), 3) := by decide +kernel
theorem dX1_appendOmega_78 : decode cX1_appendOmega 78 = .ok (.aload_n 0, 1) := by decide +kernel
theorem dX1_appendOmega_79 : decode cX1_appendOmega 79 = .ok (.getfield 12, 3) := by decide +kernel
theorem dX1_appendOmega_82 : decode cX1_appendOmega 82 = .ok (.dup, 1) := by decide +kernel
theorem dX1_appendOmega_83 : decode cX1_appendOmega 83 = .ok (.getfield 45, 3) := by decide +kernel
theorem dX1_appendOmega_86 : decode cX1_appendOmega 86 = .ok (.iload_n 3, 1) := by decide +kernel
theorem dX1_appendOmega_87 : decode cX1_appendOmega 87 = .ok (.iadd, 1) := by decide +kernel
theorem dX1_appendOmega_88 : decode cX1_appendOmega 88 = .ok (.putfield 45, 3) := by decide +kernel
theorem dX1_appendOmega_91 : decode cX1_appendOmega 91 = .ok (.return_, 1) := by decide +kernel
set_option maxRecDepth 20000 in
theorem ggX1_appendFibonacci_X1_fibonacciLength : GoodIn wsX1_appendFibonacci wsX1_fibonacciLength := goodIn_r _ [7, 1, 18, 19, 20, 21] (by decide +kernel) (by decide +kernel)
set_option maxRecDepth 20000 in
theorem gX1_appendFibonacci_X1_fibonacciLength : GoodIn wsX1_appendFibonacci (wsV RX1 133 RX1 yX1_fibonacciLength wsX1_fibonacciLength) := goodIn_app (goodIn_of _ (by decide +kernel)) ggX1_appendFibonacci_X1_fibonacciLength
set_option maxRecDepth 20000 in
theorem ggX1_appendFibonacci_X0_writeBits : GoodIn wsX1_appendFibonacci wsX0_writeBits := goodIn_r _ [12, 13, 14, 15, 11, 16, 17, 22, 23, 24, 25] (by decide +kernel) (by decide +kernel)
set_option maxRecDepth 20000 in
theorem gX1_appendFibonacci_X0_writeBits : GoodIn wsX1_appendFibonacci (wsV RX1 186 RX0 yX0_writeBits wsX0_writeBits) := goodIn_app (goodIn_of _ (by decide +kernel)) ggX1_appendFibonacci_X0_writeBits
theorem dX1_appendFibonacci_0 : decode cX1_appendFibonacci 0 = .ok (.aload_n 0, 1) := by decide +kernel
theorem dX1_appendFibonacci_1 : decode cX1_appendFibonacci 1 = .ok (.lload_n 1, 1) := by decide +kernel
theorem dX1_appendFibonacci_2 : decode cX1_appendFibonacci 2 = .ok (.invokevirtual 133, 3) := by decide +kernel
theorem dX1_appendFibonacci_5 : decode cX1_appendFibonacci 5 = .ok (.istore_n 3, 1) := by decide +kernel
theorem dX1_appendFibonacci_6 : decode cX1_appendFibonacci 6 = .ok (.lload_n 1, 1) := by decide +kernel
theorem dX1_appendFibonacci_7 : decode cX1_appendFibonacci 7 = .ok (.lstore 4, 2) := by decide +kernel
theorem dX1_appendFibonacci_9 : decode cX1_appendFibonacci 9 = .ok (.iload_n 3, 1) := by decide +kernel
theorem dX1_appendFibonacci_10 : decode cX1_appendFibonacci 10 = .ok (.iconst 2, 1) := by decide +kernel
theorem dX1_appendFibonacci_11 : decode cX1_appendFibonacci 11 = .ok (.isub, 1) := by decide +kernel
theorem dX1_appendFibonacci_12 : decode cX1_appendFibonacci 12 = .ok (.istore 6, 2) := by decide +kernel
theorem dX1_appendFibonacci_14 : decode cX1_appendFibonacci 14 = .ok (.iload 6, 2) := by decide +kernel
theorem dX1_appendFibonacci_16 : decode cX1_appendFibonacci 16 = .ok (.ifCond .lt 53, 3) := by decide +kernel
theorem dX1_appendFibonacci_19 : decode cX1_appendFibonacci 19 = .ok (.aload_n 0, 1) := by decide +kernel
theorem dX1_appendFibonacci_20 : decode cX1_appendFibonacci 20 = .ok (.getfield 24, 3) := by decide +kernel
theorem dX1_appendFibonacci_23 : decode cX1_appendFibonacci 23 = .ok (.iload 6, 2) := by decide +kernel
theorem dX1_appendFibonacci_25 : decode cX1_appendFibonacci 25 = .ok (.laload, 1) := by decide +kernel
theorem dX1_appendFibonacci_26 : decode cX1_appendFibonacci 26 = .ok (.lload 4, 2) := by decide +kernel
theorem dX1_appendFibonacci_28 : decode cX1_appendFibonacci 28 = .ok (.lcmp, 1) := by decide +kernel
theorem dX1_appendFibonacci_29 : decode cX1_appendFibonacci 29 = .ok (.ifCond .gt 34, 3) := by decide +kernel
theorem dX1_appendFibonacci_32 : decode cX1_appendFibonacci 32 = .ok (.aload_n 0, 1) := by decide +kernel
theorem dX1_appendFibonacci_33 : decode cX1_appendFibonacci 33 = .ok (.getfield 12, 3) := by decide +kernel
theorem dX1_appendFibonacci_36 : decode cX1_appendFibonacci 36 = .ok (.aload_n 0, 1) := by decide +kernel
theorem dX1_appendFibonacci_37 : decode cX1_appendFibonacci 37 = .ok (.getfield 12, 3) := by decide +kernel
theorem dX1_appendFibonacci_40 : decode cX1_appendFibonacci 40 = .ok (.getfield 45, 3) := by decide +kernel
theorem dX1_appendFibonacci_43 : decode cX1_appendFibonacci 43 = .ok (.iload 6, 2) := by decide +kernel
theorem dX1_appendFibonacci_45 : decode cX1_appendFibonacci 45 = .ok (.iadd, 1) := by decide +kernel
theorem dX1_appendFibonacci_46 : decode cX1_appendFibonacci 46 = .ok (.lconst 1, 1) := by decide +kernel
theorem dX1_appendFibonacci_47 : decode cX1_appendFibonacci 47 = .ok (.iconst 1, 1) := by decide +kernel
theorem dX1_appendFibonacci_48 : decode cX1_appendFibonacci 48 = .ok (.invokevirtual 186, 3) := by decide +kernel
theorem dX1_appendFibonacci_51 : decode cX1_appendFibonacci 51 = .ok (.lload 4, 2) := by decide +kernel
theorem dX1_appendFibonacci_53 : decode cX1_appendFibonacci 53 = .ok (.aload_n 0, 1) := by decide +kernel
theorem dX1_appendFibonacci_54 : decode cX1_appendFibonacci 54 = .ok (.getfield 24, 3) := by decide +kernel
theorem dX1_appendFibonacci_57 : decode cX1_appendFibonacci 57 = .ok (.iload 6, 2) := by decide +kernel
theorem dX1_appendFibonacci_59 : decode cX1_appendFibonacci 59 = .ok (.laload, 1) := by decide +kernel
theorem dX1_appendFibonacci_60 : decode cX1_appendFibonacci 60 = .ok (.lsub, 1) := by decide +kernel
theorem dX1_appendFibonacci_61 : decode cX1_appendFibonacci 61 = .ok (.lstore 4, 2) := by decide +kernel
theorem dX1_appendFibonacci_63 : decode cX1_appendFibonacci 63 = .ok (.iinc 6 (-1), 3) := by decide +kernel
theorem dX1_appendFibonacci_66 : decode cX1_appendFibonacci 66 = .ok (.goto (-52), 3) := by decide +kernel
theorem dX1_appendFibonacci_69 : decode cX1_appendFibonacci 69 = .ok (.aload_n 0, 1) := by decide +kernel
theorem dX1_appendFibonacci_70 : decode cX1_appendFibonacci 70 = .ok (.getfield 12, 3) := by decide +kernel
theorem dX1_appendFibonacci_73 : decode cX1_appendFibonacci 73 = .ok (.aload_n 0, 1) := by decide +kernel
theorem dX1_appendFibonacci_74 : decode cX1_appendFibonacci 74 = .ok (.getfield 12, 3) := by decide +kernel
theorem dX1_appendFibonacci_77 : decode cX1_appendFibonacci 77 = .ok (.getfield 45, 3) := by decide +kernel
theorem dX1_appendFibonacci_80 : decode cX1_appendFibonacci 80 = .ok (.iload_n 3, 1) := by decide +kernel
theorem dX1_appendFibonacci_81 : decode cX1_appendFibonacci 81 = .ok (.iadd, 1) := by decide +kernel
theorem dX1_appendFibonacci_82 : decode cX1_appendFibonacci 82 = .ok (.iconst 1, 1) := by decide +kernel
theorem dX1_appendFibonacci_83 : decode cX1_appendFibonacci 83 = .ok (.isub, 1) := by decide +kernel
theorem dX1_appendFibonacci_84 : decode cX1_appendFibonacci 84 = .ok (.lconst 1, 1) := by decide +kernel
theorem dX1_appendFibonacci_85 : decode cX1_appendFibonacci 85 = .ok (.iconst 1, 1) := by decide +kernel
theorem dX1_appendFibonacci_86 : decode cX1_appendFibonacci 86 = .ok (.invokevirtual 186, 3) := by decide +kernel
theorem dX1_appendFibonacci_89 : decode cX1_appendFibonacci 89 = .ok (.aload_n 0, 1) := by decide +kernel
theorem dX1_appendFibonacci_90 : decode cX1_appendFibonacci 90 = .ok (.getfield 12, 3) := by decide +kernel
theorem dX1_appendFibonacci_93 : decode cX1_appendFibonacci 93 = .ok (.dup, 1) := by decide +kernel
theorem dX1_appendFibonacci_94 : decode cX1_appendFibonacci 94 = .ok (.getfield 45, 3) := by decide +kernel
theorem dX1_appendFibonacci_97 : decode cX1_appendFibonacci 97 = .ok (.iload_n 3, 1) := by decide +kernel
theorem dX1_appendFibonacci_98 : decode cX1_appendFibonacci 98 = .ok (.iadd, 1) := by decide +kernel
theorem dX1_appendFibonacci_99 : decode cX1_appendFibonacci 99 = .ok (.putfield 45, 3) := by decide +kernel
theorem dX1_appendFibonacci_102 : decode cX1_appendFibonacci 102 = .ok (.return_, 1) := by decide +kernel
set_option maxRecDepth 20000 in
theorem ggX1_appendGolomb_X0_appendOnesAndZero : GoodIn wsX1_appendGolomb wsX0_appendOnesAndZero := goodIn_r _ [6, 7, 8, 9, 10, 5, 11, 12, 44, 45, 46, 47] (by decide +kernel) (by decide +kernel)
set_option maxRecDepth 20000 in
theorem gX1_appendGolomb_X0_appendOnesAndZero : GoodIn wsX1_appendGolomb (wsV RX1 167 RX0 yX0_appendOnesAndZero wsX0_appendOnesAndZero) := goodIn_app (goodIn_of _ (by decide +kernel)) ggX1_appendGolomb_X0_appendOnesAndZero
set_option maxRecDepth 20000 in
theorem ggX1_appendGolomb_X1_golombWidth : GoodIn wsX1_appendGolomb wsX1_golombWidth := goodIn_r _ [16, 17, 18, 15, 19, 20, 21, 22, 23, 24, 25, 26, 27, 28] (by decide +kernel) (by decide +kernel)
set_option maxRecDepth 20000 in
theorem gX1_appendGolomb_X1_golombWidth : GoodIn wsX1_appendGolomb (va_wsS RX1 149 yX1_golombWidth wsX1_golombWidth) := goodIn_app (goodIn_of _ (by decide +kernel)) ggX1_appendGolomb_X1_golombWidth
set_option maxRecDepth 20000 in
theorem ggX1_appendGolomb_X1_golombShortRests : GoodIn wsX1_appendGolomb wsX1_golombShortRests := goodIn_r _ [31] (by decide +kernel) (by decide +kernel)
set_option maxRecDepth 20000 in
theorem gX1_appendGolomb_X1_golombShortRests : GoodIn wsX1_appendGolomb (va_wsS RX1 152 yX1_golombShortRests wsX1_golombShortRests) := goodIn_app (goodIn_of _ (by decide +kernel)) ggX1_appendGolomb_X1_golombShortRests
set_option maxRecDepth 20000 in
theorem ggX1_appendGolomb_X0_appendBits : GoodIn wsX1_appendGolomb wsX0_appendBits := goodIn_r _ [35, 7, 36, 37, 38, 5, 39, 8, 9, 10, 11, 12, 44, 45, 46, 47] (by decide +kernel) (by decide +kernel)
set_option maxRecDepth 20000 in
theorem gX1_appendGolomb_X0_appendBits : GoodIn wsX1_appendGolomb (wsV RX1 63 RX0 yX0_appendBits wsX0_appendBits) := goodIn_app (goodIn_of _ (by decide +kernel)) ggX1_appendGolomb_X0_appendBits
theorem dX1_appendGolomb_0 : decode cX1_appendGolomb 0 = .ok (.aload_n 0, 1) := by decide +kernel
theorem dX1_appendGolomb_1 : decode cX1_appendGolomb 1 = .ok (.getfield 12, 3) := by decide +kernel
theorem dX1_appendGolomb_4 : decode cX1_appendGolomb 4 = .ok (.lload_n 2, 1) := by decide +kernel
theorem dX1_appendGolomb_5 : decode cX1_appendGolomb 5 = .ok (.lconst 1, 1) := by decide +kernel
theorem dX1_appendGolomb_6 : decode cX1_appendGolomb 6 = .ok (.lsub, 1) := by decide +kernel
theorem dX1_appendGolomb_7 : decode cX1_appendGolomb 7 = .ok (.iload_n 1, 1) := by decide +kernel
theorem dX1_appendGolomb_8 : decode cX1_appendGolomb 8 = .ok (.i2l, 1) := by decide +kernel
theorem dX1_appendGolomb_9 : decode cX1_appendGolomb 9 = .ok (.ldiv, 1) := by decide +kernel
theorem dX1_appendGolomb_10 : decode cX1_appendGolomb 10 = .ok (.invokevirtual 167, 3) := by decide +kernel
theorem dX1_appendGolomb_13 : decode cX1_appendGolomb 13 = .ok (.lload_n 2, 1) := by decide +kernel
theorem dX1_appendGolomb_14 : decode cX1_appendGolomb 14 = .ok (.lconst 1, 1) := by decide +kernel
theorem dX1_appendGolomb_15 : decode cX1_appendGolomb 15 = .ok (.lsub, 1) := by decide +kernel
theorem dX1_appendGolomb_16 : decode cX1_appendGolomb 16 = .ok (.iload_n 1, 1) := by decide +kernel
theorem dX1_appendGolomb_17 : decode cX1_appendGolomb 17 = .ok (.i2l, 1) := by decide +kernel
theorem dX1_appendGolomb_18 : decode cX1_appendGolomb 18 = .ok (.lrem, 1) := by decide +kernel
theorem dX1_appendGolomb_19 : decode cX1_appendGolomb 19 = .ok (.lstore 4, 2) := by decide +kernel
theorem dX1_appendGolomb_21 : decode cX1_appendGolomb 21 = .ok (.iload_n 1, 1) := by decide +kernel
theorem dX1_appendGolomb_22 : decode cX1_appendGolomb 22 = .ok (.invokestatic 149, 3) := by decide +kernel
theorem dX1_appendGolomb_25 : decode cX1_appendGolomb 25 = .ok (.istore 6, 2) := by decide +kernel
theorem dX1_appendGolomb_27 : decode cX1_appendGolomb 27 = .ok (.iload_n 1, 1) := by decide +kernel
theorem dX1_appendGolomb_28 : decode cX1_appendGolomb 28 = .ok (.iload 6, 2) := by decide +kernel
theorem dX1_appendGolomb_30 : decode cX1_appendGolomb 30 = .ok (.invokestatic 152, 3) := by decide +kernel
theorem dX1_appendGolomb_33 : decode cX1_appendGolomb 33 = .ok (.lstore 7, 2) := by decide +kernel
theorem dX1_appendGolomb_35 : decode cX1_appendGolomb 35 = .ok (.lload 4, 2) := by decide +kernel
theorem dX1_appendGolomb_37 : decode cX1_appendGolomb 37 = .ok (.lload 7, 2) := by decide +kernel
theorem dX1_appendGolomb_39 : decode cX1_appendGolomb 39 = .ok (.lcmp, 1) := by decide +kernel
theorem dX1_appendGolomb_40 : decode cX1_appendGolomb 40 = .ok (.ifCond .ge 19, 3) := by decide +kernel
theorem dX1_appendGolomb_43 : decode cX1_appendGolomb 43 = .ok (.aload_n 0, 1) := by decide +kernel
theorem dX1_appendGolomb_44 : decode cX1_appendGolomb 44 = .ok (.getfield 12, 3) := by decide +kernel
theorem dX1_appendGolomb_47 : decode cX1_appendGolomb 47 = .ok (.lload 4, 2) := by decide +kernel
theorem dX1_appendGolomb_49 : decode cX1_appendGolomb 49 = .ok (.iload 6, 2) := by decide +kernel
theorem dX1_appendGolomb_51 : decode cX1_appendGolomb 51 = .ok (.iconst 1, 1) := by decide +kernel
theorem dX1_appendGolomb_52 : decode cX1_appendGolomb 52 = .ok (.isub, 1) := by decide +kernel
theorem dX1_appendGolomb_53 : decode cX1_appendGolomb 53 = .ok (.invokevirtual 63, 3) := by decide +kernel
theorem dX1_appendGolomb_56 : decode cX1_appendGolomb 56 = .ok (.goto 17, 3) := by decide +kernel
theorem dX1_appendGolomb_59 : decode cX1_appendGolomb 59 = .ok (.aload_n 0, 1) := by decide +kernel
theorem dX1_appendGolomb_60 : decode cX1_appendGolomb 60 = .ok (.getfield 12, 3) := by decide +kernel
theorem dX1_appendGolomb_63 : decode cX1_appendGolomb 63 = .ok (.lload 4, 2) := by decide +kernel
theorem dX1_appendGolomb_65 : decode cX1_appendGolomb 65 = .ok (.lload 7, 2) := by decide +kernel
theorem dX1_appendGolomb_67 : decode cX1_appendGolomb 67 = .ok (.ladd, 1) := by decide +kernel
theorem dX1_appendGolomb_68 : decode cX1_appendGolomb 68 = .ok (.iload 6, 2) := by decide +kernel
theorem dX1_appendGolomb_70 : decode cX1_appendGolomb 70 = .ok (.invokevirtual 63, 3) := by decide +kernel
theorem dX1_appendGolomb_73 : decode cX1_appendGolomb 73 = .ok (.return_, 1) := by decide +kernel
set_option maxRecDepth 20000 in
theorem ggX1_appendGroups_X1_groupsOf : GoodIn wsX1_appendGroups wsX1_groupsOf := goodIn_r _ [5, 6, 7, 8, 9, 10, 11, 4, 12, 13, 14, 15, 16, 17, 18, 19, 20, 21] (by decide +kernel) (by decide +kernel)
set_option maxRecDepth 20000 in
theorem gX1_appendGroups_X1_groupsOf : GoodIn wsX1_appendGroups (va_wsS RX1 140 yX1_groupsOf wsX1_groupsOf) := goodIn_app (goodIn_of _ (by decide +kernel)) ggX1_appendGroups_X1_groupsOf
set_option maxRecDepth 20000 in
theorem ggX1_appendGroups_X0_appendBits : GoodIn wsX1_appendGroups wsX0_appendBits := goodIn_r _ [26, 27, 28, 29, 30, 25, 31, 32, 33, 34, 35, 36, 41, 42, 43, 44] (by decide +kernel) (by decide +kernel)
set_option maxRecDepth 20000 in
theorem gX1_appendGroups_X0_appendBits : GoodIn wsX1_appendGroups (wsV RX1 63 RX0 yX0_appendBits wsX0_appendBits) := goodIn_app (goodIn_of _ (by decide +kernel)) ggX1_appendGroups_X0_appendBits
theorem dX1_appendGroups_0 : decode cX1_appendGroups 0 = .ok (.iload_n 1, 1) := by decide +kernel
theorem dX1_appendGroups_1 : decode cX1_appendGroups 1 = .ok (.lload_n 2, 1) := by decide +kernel
theorem dX1_appendGroups_2 : decode cX1_appendGroups 2 = .ok (.invokestatic 140, 3) := by decide +kernel
theorem dX1_appendGroups_5 : decode cX1_appendGroups 5 = .ok (.istore 4, 2) := by decide +kernel
theorem dX1_appendGroups_7 : decode cX1_appendGroups 7 = .ok (.lload_n 2, 1) := by decide +kernel
theorem dX1_appendGroups_8 : decode cX1_appendGroups 8 = .ok (.lconst 1, 1) := by decide +kernel
theorem dX1_appendGroups_9 : decode cX1_appendGroups 9 = .ok (.lsub, 1) := by decide +kernel
theorem dX1_appendGroups_10 : decode cX1_appendGroups 10 = .ok (.lstore 5, 2) := by decide +kernel
theorem dX1_appendGroups_12 : decode cX1_appendGroups 12 = .ok (.iconst 1, 1) := by decide +kernel
theorem dX1_appendGroups_13 : decode cX1_appendGroups 13 = .ok (.istore 7, 2) := by decide +kernel
theorem dX1_appendGroups_15 : decode cX1_appendGroups 15 = .ok (.iload 7, 2) := by decide +kernel
theorem dX1_appendGroups_17 : decode cX1_appendGroups 17 = .ok (.iload 4, 2) := by decide +kernel
theorem dX1_appendGroups_19 : decode cX1_appendGroups 19 = .ok (.if_icmp .gt 45, 3) := by decide +kernel
theorem dX1_appendGroups_22 : decode cX1_appendGroups 22 = .ok (.aload_n 0, 1) := by decide +kernel
theorem dX1_appendGroups_23 : decode cX1_appendGroups 23 = .ok (.getfield 12, 3) := by decide +kernel
theorem dX1_appendGroups_26 : decode cX1_appendGroups 26 = .ok (.iload 7, 2) := by decide +kernel
theorem dX1_appendGroups_28 : decode cX1_appendGroups 28 = .ok (.iload 4, 2) := by decide +kernel
theorem dX1_appendGroups_30 : decode cX1_appendGroups 30 = .ok (.if_icmp .ge 7, 3) := by decide +kernel
theorem dX1_appendGroups_33 : decode cX1_appendGroups 33 = .ok (.lconst 1, 1) := by decide +kernel
theorem dX1_appendGroups_34 : decode cX1_appendGroups 34 = .ok (.goto 4, 3) := by decide +kernel
theorem dX1_appendGroups_37 : decode cX1_appendGroups 37 = .ok (.lconst 0, 1) := by decide +kernel
theorem dX1_appendGroups_38 : decode cX1_appendGroups 38 = .ok (.iconst 1, 1) := by decide +kernel
theorem dX1_appendGroups_39 : decode cX1_appendGroups 39 = .ok (.invokevirtual 63, 3) := by decide +kernel
theorem dX1_appendGroups_42 : decode cX1_appendGroups 42 = .ok (.aload_n 0, 1) := by decide +kernel
theorem dX1_appendGroups_43 : decode cX1_appendGroups 43 = .ok (.getfield 12, 3) := by decide +kernel
theorem dX1_appendGroups_46 : decode cX1_appendGroups 46 = .ok (.lload 5, 2) := by decide +kernel
theorem dX1_appendGroups_48 : decode cX1_appendGroups 48 = .ok (.iload_n 1, 1) := by decide +kernel
theorem dX1_appendGroups_49 : decode cX1_appendGroups 49 = .ok (.invokevirtual 63, 3) := by decide +kernel
theorem dX1_appendGroups_52 : decode cX1_appendGroups 52 = .ok (.lload 5, 2) := by decide +kernel
theorem dX1_appendGroups_54 : decode cX1_appendGroups 54 = .ok (.iload_n 1, 1) := by decide +kernel
theorem dX1_appendGroups_55 : decode cX1_appendGroups 55 = .ok (.lshr, 1) := by decide +kernel
theorem dX1_appendGroups_56 : decode cX1_appendGroups 56 = .ok (.lstore 5, 2) := by decide +kernel
theorem dX1_appendGroups_58 : decode cX1_appendGroups 58 = .ok (.iinc 7 1, 3) := by decide +kernel
theorem dX1_appendGroups_61 : decode cX1_appendGroups 61 = .ok (.goto (-46), 3) := by decide +kernel
theorem dX1_appendGroups_64 : decode cX1_appendGroups 64 = .ok (.return_, 1) := by decide +kernel
set_option maxRecDepth 20000 in
theorem ggX1_readNext_X1_readCodeword : GoodIn wsX1_readNext wsX1_readCodeword := goodIn_r _ [7, 1, 8, 9, 10, 11, 12, 13, 14, 15, 16, 17, 18, 19, 20, 21, 22, 23, 24, 25, 26, 27, 28, 6, 29, 2, 30, 31, 32, 33, 34, 35, 36, 37, 38, 39, 40, 41, 42, 43, 44, 45, 46, 47, 48, 49, 50, 51, 52, 53, 54, 55, 56, 57, 58, 59, 60, 61, 62, 63, 64, 65, 66, 67, 68, 69, 70, 71, 72, 73, 74, 75, 76, 77, 78, 79, 80, 81, 82, 83, 84, 85, 86, 87, 88, 89, 90, 91, 92] (by decide +kernel) (by decide +kernel)
set_option maxRecDepth 20000 in
theorem gX1_readNext_X1_readCodeword : GoodIn wsX1_readNext (wsV RX1 193 RX1 yX1_readCodeword wsX1_readCodeword) := goodIn_app (goodIn_of _ (by decide +kernel)) ggX1_readNext_X1_readCodeword
theorem dX1_readNext_0 : decode cX1_readNext 0 = .ok (.aload_n 0, 1) := by decide +kernel
theorem dX1_readNext_1 : decode cX1_readNext 1 = .ok (.getfield 12, 3) := by decide +kernel
theorem dX1_readNext_4 : decode cX1_readNext 4 = .ok (.aload_n 0, 1) := by decide +kernel
theorem dX1_readNext_5 : decode cX1_readNext 5 = .ok (.getfield 12, 3) := by decide +kernel
theorem dX1_readNext_8 : decode cX1_readNext 8 = .ok (.getfield 71, 3) := by decide +kernel
theorem dX1_readNext_11 : decode cX1_readNext 11 = .ok (.putfield 190, 3) := by decide +kernel
theorem dX1_readNext_14 : decode cX1_readNext 14 = .ok (.aload_n 0, 1) := by decide +kernel
theorem dX1_readNext_15 : decode cX1_readNext 15 = .ok (.iload_n 1, 1) := by decide +kernel
theorem dX1_readNext_16 : decode cX1_readNext 16 = .ok (.iload_n 2, 1) := by decide +kernel
theorem dX1_readNext_17 : decode cX1_readNext 17 = .ok (.invokevirtual 193, 3) := by decide +kernel
theorem dX1_readNext_20 : decode cX1_readNext 20 = .ok (.lstore_n 3, 1) := by decide +kernel
theorem dX1_readNext_21 : decode cX1_readNext 21 = .ok (.lload_n 3, 1) := by decide +kernel
theorem dX1_readNext_22 : decode cX1_readNext 22 = .ok (.ldc2_w 97, 3) := by decide +kernel
theorem dX1_readNext_25 : decode cX1_readNext 25 = .ok (.lcmp, 1) := by decide +kernel
theorem dX1_readNext_26 : decode cX1_readNext 26 = .ok (.ifCond .eq 20, 3) := by decide +kernel
theorem dX1_readNext_29 : decode cX1_readNext 29 = .ok (.aload_n 0, 1) := by decide +kernel
theorem dX1_readNext_30 : decode cX1_readNext 30 = .ok (.getfield 12, 3) := by decide +kernel
theorem dX1_readNext_33 : decode cX1_readNext 33 = .ok (.getfield 190, 3) := by decide +kernel
theorem dX1_readNext_36 : decode cX1_readNext 36 = .ok (.aload_n 0, 1) := by decide +kernel
theorem dX1_readNext_37 : decode cX1_readNext 37 = .ok (.getfield 12, 3) := by decide +kernel
theorem dX1_readNext_40 : decode cX1_readNext 40 = .ok (.getfield 45, 3) := by decide +kernel
theorem dX1_readNext_43 : decode cX1_readNext 43 = .ok (.if_icmp .le 7, 3) := by decide +kernel
theorem dX1_readNext_46 : decode cX1_readNext 46 = .ok (.ldc2_w 97, 3) := by decide +kernel
theorem dX1_readNext_49 : decode cX1_readNext 49 = .ok (.lreturn, 1) := by decide +kernel
theorem dX1_readNext_50 : decode cX1_readNext 50 = .ok (.aload_n 0, 1) := by decide +kernel
theorem dX1_readNext_51 : decode cX1_readNext 51 = .ok (.getfield 12, 3) := by decide +kernel
theorem dX1_readNext_54 : decode cX1_readNext 54 = .ok (.aload_n 0, 1) := by decide +kernel
theorem dX1_readNext_55 : decode cX1_readNext 55 = .ok (.getfield 12, 3) := by decide +kernel
theorem dX1_readNext_58 : decode cX1_readNext 58 = .ok (.getfield 190, 3) := by decide +kernel
theorem dX1_readNext_61 : decode cX1_readNext 61 = .ok (.putfield 71, 3) := by decide +kernel
theorem dX1_readNext_64 : decode cX1_readNext 64 = .ok (.lload_n 3, 1) := by decide +kernel
theorem dX1_readNext_65 : decode cX1_readNext 65 = .ok (.lreturn, 1) := by decide +kernel
set_option maxRecDepth 20000 in
theorem ggX1_readCodeword_X0_readOnesAndZero : GoodIn wsX1_readCodeword wsX0_readOnesAndZero := goodIn_r _ [6, 7, 8, 9, 5, 10, 11, 12, 13, 14, 15, 16, 17, 18, 19, 85, 86, 87, 88] (by decide +kernel) (by decide +kernel)
set_option maxRecDepth 20000 in
theorem gX1_readCodeword_X0_readOnesAndZero : GoodIn wsX1_readCodeword (wsV RX1 196 RX0 yX0_readOnesAndZero wsX0_readOnesAndZero) := goodIn_app (goodIn_of _ (by decide +kernel)) ggX1_readCodeword_X0_readOnesAndZero
set_option maxRecDepth 20000 in
theorem ggX1_readCodeword_X1_readGamma : GoodIn wsX1_readCodeword wsX1_readGamma := goodIn_r _ [24, 1, 25, 26, 8, 9, 5, 10, 11, 12, 13, 14, 15, 16, 17, 18, 19, 27, 28, 29, 30, 31, 32, 33, 23, 34, 35, 81, 82, 83, 84, 85, 86, 87, 88] (by decide +kernel) (by decide +kernel)
set_option maxRecDepth 20000 in
theorem gX1_readCodeword_X1_readGamma : GoodIn wsX1_readCodeword (wsV RX1 199 RX1 yX1_readGamma wsX1_readGamma) := goodIn_app (goodIn_of _ (by decide +kernel)) ggX1_readCodeword_X1_readGamma
set_option maxRecDepth 20000 in
theorem ggX1_readCodeword_X1_readDelta : GoodIn wsX1_readCodeword wsX1_readDelta := goodIn_r _ [39, 25, 40, 1, 20, 21, 22, 23, 24, 26, 8, 9, 5, 10, 11, 12, 13, 14, 15, 16, 17, 18, 19, 27, 28, 29, 30, 31, 32, 33, 34, 35, 81, 82, 83, 84, 85, 86, 87, 88] (by decide +kernel) (by decide +kernel)
set_option maxRecDepth 20000 in
theorem gX1_readCodeword_X1_readDelta : GoodIn wsX1_readCodeword (wsV RX1 203 RX1 yX1_readDelta wsX1_readDelta) := goodIn_app (goodIn_of _ (by decide +kernel)) ggX1_readCodeword_X1_readDelta
set_option maxRecDepth 20000 in
theorem ggX1_readCodeword_X1_readOmega : GoodIn wsX1_readCodeword wsX1_readOmega := goodIn_r _ [44, 1, 40, 25, 26, 8, 9, 5, 10, 11, 12, 13, 14, 15, 16, 17, 18, 19, 32, 33, 23, 34, 35, 27, 28, 29, 30, 31, 81, 82, 83, 84, 85, 86, 87, 88] (by decide +kernel) (by decide +kernel)
set_option maxRecDepth 20000 in
theorem gX1_readCodeword_X1_readOmega : GoodIn wsX1_readCodeword (wsV RX1 206 RX1 yX1_readOmega wsX1_readOmega) := goodIn_app (goodIn_of _ (by decide +kernel)) ggX1_readCodeword_X1_readOmega
set_option maxRecDepth 20000 in
theorem ggX1_readCodeword_X1_readFibonacci : GoodIn wsX1_readCodeword wsX1_readFibonacci := goodIn_r _ [48, 1, 49, 25, 26, 8, 9, 5, 10, 11, 12, 13, 14, 15, 16, 17, 18, 19, 32, 33, 23, 34, 35, 81, 82, 83, 84, 85, 86, 87, 88] (by decide +kernel) (by decide +kernel)
set_option maxRecDepth 20000 in
theorem gX1_readCodeword_X1_readFibonacci : GoodIn wsX1_readCodeword (wsV RX1 209 RX1 yX1_readFibonacci wsX1_readFibonacci) := goodIn_app (goodIn_of _ (by decide +kernel)) ggX1_readCodeword_X1_readFibonacci
set_option maxRecDepth 20000 in
theorem ggX1_readCodeword_X1_readGolomb : GoodIn wsX1_readCodeword wsX1_readGolomb := goodIn_r _ [53, 1, 54, 2, 3, 4, 5, 6, 7, 8, 9, 10, 11, 12, 13, 14, 15, 16, 17, 18, 19, 55, 56, 23, 57, 58, 59, 60, 61, 62, 63, 64, 65, 66, 67, 68, 69, 70, 71, 72, 27, 28, 29, 30, 31, 26, 81, 82, 83, 84, 85, 86, 87, 88] (by decide +kernel) (by decide +kernel)
set_option maxRecDepth 20000 in
theorem gX1_readCodeword_X1_readGolomb : GoodIn wsX1_readCodeword (wsV RX1 212 RX1 yX1_readGolomb wsX1_readGolomb) := goodIn_app (goodIn_of _ (by decide +kernel)) ggX1_readCodeword_X1_readGolomb
set_option maxRecDepth 20000 in
theorem ggX1_readCodeword_X1_readExpGolomb : GoodIn wsX1_readCodeword wsX1_readExpGolomb := goodIn_r _ [76, 25, 1, 20, 21, 22, 23, 24, 26, 8, 9, 5, 10, 11, 12, 13, 14, 15, 16, 17, 18, 19, 27, 28, 29, 30, 31, 32, 33, 34, 35, 81, 82, 83, 84, 85, 86, 87, 88] (by decide +kernel) (by decide +kernel)
set_option maxRecDepth 20000 in
theorem gX1_readCodeword_X1_readExpGolomb : GoodIn wsX1_readCodeword (wsV RX1 216 RX1 yX1_readExpGolomb wsX1_readExpGolomb) := goodIn_app (goodIn_of _ (by decide +kernel)) ggX1_readCodeword_X1_readExpGolomb
set_option maxRecDepth 20000 in
theorem ggX1_readCodeword_X1_readGroups : GoodIn wsX1_readCodeword wsX1_readGroups := goodIn_r _ [80, 1, 25, 26, 8, 9, 5, 10, 11, 12, 13, 14, 15, 16, 17, 18, 19, 27, 28, 29, 30, 31, 81, 82, 83, 84, 85, 86, 87, 88] (by decide +kernel) (by decide +kernel)
set_option maxRecDepth 20000 in
theorem gX1_readCodeword_X1_readGroups : GoodIn wsX1_readCodeword (wsV RX1 219 RX1 yX1_readGroups wsX1_readGroups) := goodIn_app (goodIn_of _ (by decide +kernel)) ggX1_readCodeword_X1_readGroups
theorem dX1_readCodeword_0 : decode cX1_readCodeword 0 = .ok (.iload_n 1, 1) := by decide +kernel
theorem dX1_readCodeword_1 : decode cX1_readCodeword 1 = .ok (.tableswitch 86 0 6 #[43, 54, 59, 64, 69, 74, 80], 43) := by decide +kernel
theorem dX1_readCodeword_44 : decode cX1_readCodeword 44 = .ok (.aload_n 0, 1) := by decide +kernel
theorem dX1_readCodeword_45 : decode cX1_readCodeword 45 = .ok (.getfield 12, 3) := by decide +kernel
theorem dX1_readCodeword_48 : decode cX1_readCodeword 48 = .ok (.invokevirtual 196, 3) := by decide +kernel
theorem dX1_readCodeword_51 : decode cX1_readCodeword 51 = .ok (.i2l, 1) := by decide +kernel
theorem dX1_readCodeword_52 : decode cX1_readCodeword 52 = .ok (.lconst 1, 1) := by decide +kernel
theorem dX1_readCodeword_53 : decode cX1_readCodeword 53 = .ok (.ladd, 1) := by decide +kernel
theorem dX1_readCodeword_54 : decode cX1_readCodeword 54 = .ok (.lreturn, 1) := by decide +kernel
theorem dX1_readCodeword_55 : decode cX1_readCodeword 55 = .ok (.aload_n 0, 1) := by decide +kernel
theorem dX1_readCodeword_56 : decode cX1_readCodeword 56 = .ok (.invokevirtual 199, 3) := by decide +kernel
theorem dX1_readCodeword_59 : decode cX1_readCodeword 59 = .ok (.lreturn, 1) := by decide +kernel
theorem dX1_readCodeword_60 : decode cX1_readCodeword 60 = .ok (.aload_n 0, 1) := by decide +kernel
theorem dX1_readCodeword_61 : decode cX1_readCodeword 61 = .ok (.invokevirtual 203, 3) := by decide +kernel
theorem dX1_readCodeword_64 : decode cX1_readCodeword 64 = .ok (.lreturn, 1) := by decide +kernel
theorem dX1_readCodeword_65 : decode cX1_readCodeword 65 = .ok (.aload_n 0, 1) := by decide +kernel
theorem dX1_readCodeword_66 : decode cX1_readCodeword 66 = .ok (.invokevirtual 206, 3) := by decide +kernel
theorem dX1_readCodeword_69 : decode cX1_readCodeword 69 = .ok (.lreturn, 1) := by decide +kernel
theorem dX1_readCodeword_70 : decode cX1_readCodeword 70 = .ok (.aload_n 0, 1) := by decide +kernel
theorem dX1_readCodeword_71 : decode cX1_readCodeword 71 = .ok (.invokevirtual 209, 3) := by decide +kernel
theorem dX1_readCodeword_74 : decode cX1_readCodeword 74 = .ok (.lreturn, 1) := by decide +kernel
theorem dX1_readCodeword_75 : decode cX1_readCodeword 75 = .ok (.aload_n 0, 1) := by decide +kernel
theorem dX1_readCodeword_76 : decode cX1_readCodeword 76 = .ok (.iload_n 2, 1) := by decide +kernel
theorem dX1_readCodeword_77 : decode cX1_readCodeword 77 = .ok (.invokevirtual 212, 3) := by decide +kernel
theorem dX1_readCodeword_80 : decode cX1_readCodeword 80 = .ok (.lreturn, 1) := by decide +kernel
theorem dX1_readCodeword_81 : decode cX1_readCodeword 81 = .ok (.aload_n 0, 1) := by decide +kernel
theorem dX1_readCodeword_82 : decode cX1_readCodeword 82 = .ok (.iload_n 2, 1) := by decide +kernel
theorem dX1_readCodeword_83 : decode cX1_readCodeword 83 = .ok (.invokevirtual 216, 3) := by decide +kernel
theorem dX1_readCodeword_86 : decode cX1_readCodeword 86 = .ok (.lreturn, 1) := by decide +kernel
theorem dX1_readCodeword_87 : decode cX1_readCodeword 87 = .ok (.aload_n 0, 1) := by decide +kernel
theorem dX1_readCodeword_88 : decode cX1_readCodeword 88 = .ok (.iload_n 2, 1) := by decide +kernel
theorem dX1_readCodeword_89 : decode cX1_readCodeword 89 = .ok (.invokevirtual 219, 3) := by decide +kernel
theorem dX1_readCodeword_92 : decode cX1_readCodeword 92 = .ok (.lreturn, 1) := by decide +kernel
theorem dX1_numberOrNone_0 : decode cX1_numberOrNone 0 = .ok (.lload_n 0, 1) := by decide +kernel
theorem dX1_numberOrNone_1 : decode cX1_numberOrNone 1 = .ok (.ldc2_w 106, 3) := by decide +kernel
theorem dX1_numberOrNone_4 : decode cX1_numberOrNone 4 = .ok (.lcmp, 1) := by decide +kernel
theorem dX1_numberOrNone_5 : decode cX1_numberOrNone 5 = .ok (.ifCond .gt 7, 3) := by decide +kernel
theorem dX1_numberOrNone_8 : decode cX1_numberOrNone 8 = .ok (.lload_n 0, 1) := by decide +kernel
theorem dX1_numberOrNone_9 : decode cX1_numberOrNone 9 = .ok (.goto 6, 3) := by decide +kernel
theorem dX1_numberOrNone_12 : decode cX1_numberOrNone 12 = .ok (.ldc2_w 97, 3) := by decide +kernel
theorem dX1_numberOrNone_15 : decode cX1_numberOrNone 15 = .ok (.lreturn, 1) := by decide +kernel
set_option maxRecDepth 20000 in
theorem ggX1_readGamma_X0_readBit : GoodIn wsX1_readGamma wsX0_readBit := goodIn_r _ [7, 8, 9, 10, 11, 6, 12, 13, 14, 15, 16, 31, 32, 33, 34] (by decide +kernel) (by decide +kernel)
set_option maxRecDepth 20000 in
theorem gX1_readGamma_X0_readBit : GoodIn wsX1_readGamma (wsV RX1 222 RX0 yX0_readBit wsX0_readBit) := goodIn_app (goodIn_of _ (by decide +kernel)) ggX1_readGamma_X0_readBit
set_option maxRecDepth 20000 in
theorem ggX1_readGamma_X0_readBits : GoodIn wsX1_readGamma wsX0_readBits := goodIn_r _ [20, 21, 8, 9, 10, 11, 6, 12, 13, 14, 15, 16, 31, 32, 33, 34] (by decide +kernel) (by decide +kernel)
set_option maxRecDepth 20000 in
theorem gX1_readGamma_X0_readBits : GoodIn wsX1_readGamma (wsV RX1 225 RX0 yX0_readBits wsX0_readBits) := goodIn_app (goodIn_of _ (by decide +kernel)) ggX1_readGamma_X0_readBits
set_option maxRecDepth 20000 in
theorem ggX1_readGamma_X1_numberOrNone : GoodIn wsX1_readGamma wsX1_numberOrNone := goodIn_r _ [25, 26, 2] (by decide +kernel) (by decide +kernel)
set_option maxRecDepth 20000 in
theorem gX1_readGamma_X1_numberOrNone : GoodIn wsX1_readGamma (va_wsS RX1 229 yX1_numberOrNone wsX1_numberOrNone) := goodIn_app (goodIn_of _ (by decide +kernel)) ggX1_readGamma_X1_numberOrNone
theorem dX1_readGamma_0 : decode cX1_readGamma 0 = .ok (.iconst 0, 1) := by decide +kernel
theorem dX1_readGamma_1 : decode cX1_readGamma 1 = .ok (.istore_n 1, 1) := by decide +kernel
theorem dX1_readGamma_2 : decode cX1_readGamma 2 = .ok (.iload_n 1, 1) := by decide +kernel
theorem dX1_readGamma_3 : decode cX1_readGamma 3 = .ok (.bipush 63, 2) := by decide +kernel
theorem dX1_readGamma_5 : decode cX1_readGamma 5 = .ok (.if_icmp .ge 33, 3) := by decide +kernel
theorem dX1_readGamma_8 : decode cX1_readGamma 8 = .ok (.aload_n 0, 1) := by decide +kernel
theorem dX1_readGamma_9 : decode cX1_readGamma 9 = .ok (.getfield 12, 3) := by decide +kernel
theorem dX1_readGamma_12 : decode cX1_readGamma 12 = .ok (.invokevirtual 222, 3) := by decide +kernel
theorem dX1_readGamma_15 : decode cX1_readGamma 15 = .ok (.iconst 1, 1) := by decide +kernel
theorem dX1_readGamma_16 : decode cX1_readGamma 16 = .ok (.if_icmp .ne 16, 3) := by decide +kernel
theorem dX1_readGamma_19 : decode cX1_readGamma 19 = .ok (.aload_n 0, 1) := by decide +kernel
theorem dX1_readGamma_20 : decode cX1_readGamma 20 = .ok (.getfield 12, 3) := by decide +kernel
theorem dX1_readGamma_23 : decode cX1_readGamma 23 = .ok (.lconst 1, 1) := by decide +kernel
theorem dX1_readGamma_24 : decode cX1_readGamma 24 = .ok (.iload_n 1, 1) := by decide +kernel
theorem dX1_readGamma_25 : decode cX1_readGamma 25 = .ok (.invokevirtual 225, 3) := by decide +kernel
theorem dX1_readGamma_28 : decode cX1_readGamma 28 = .ok (.invokestatic 229, 3) := by decide +kernel
theorem dX1_readGamma_31 : decode cX1_readGamma 31 = .ok (.lreturn, 1) := by decide +kernel
theorem dX1_readGamma_32 : decode cX1_readGamma 32 = .ok (.iinc 1 1, 3) := by decide +kernel
theorem dX1_readGamma_35 : decode cX1_readGamma 35 = .ok (.goto (-33), 3) := by decide +kernel
theorem dX1_readGamma_38 : decode cX1_readGamma 38 = .ok (.ldc2_w 97, 3) := by decide +kernel
theorem dX1_readGamma_41 : decode cX1_readGamma 41 = .ok (.lreturn, 1) := by decide +kernel
set_option maxRecDepth 20000 in
theorem ggX1_readDelta_X1_readGamma : GoodIn wsX1_readDelta wsX1_readGamma := goodIn_r _ [8, 3, 1, 9, 10, 11, 12, 13, 14, 15, 16, 17, 18, 19, 20, 21, 22, 23, 24, 25, 26, 27, 28, 29, 7, 30, 31, 32, 33, 34, 35, 36, 37, 38, 39] (by decide +kernel) (by decide +kernel)
set_option maxRecDepth 20000 in
theorem gX1_readDelta_X1_readGamma : GoodIn wsX1_readDelta (wsV RX1 199 RX1 yX1_readGamma wsX1_readGamma) := goodIn_app (goodIn_of _ (by decide +kernel)) ggX1_readDelta_X1_readGamma
set_option maxRecDepth 20000 in
theorem ggX1_readDelta_X0_readBits : GoodIn wsX1_readDelta wsX0_readBits := goodIn_r _ [26, 27, 14, 15, 16, 17, 12, 18, 19, 20, 21, 22, 36, 37, 38, 39] (by decide +kernel) (by decide +kernel)
set_option maxRecDepth 20000 in
theorem gX1_readDelta_X0_readBits : GoodIn wsX1_readDelta (wsV RX1 225 RX0 yX0_readBits wsX0_readBits) := goodIn_app (goodIn_of _ (by decide +kernel)) ggX1_readDelta_X0_readBits
set_option maxRecDepth 20000 in
theorem ggX1_readDelta_X1_numberOrNone : GoodIn wsX1_readDelta wsX1_numberOrNone := goodIn_r _ [30, 31, 1] (by decide +kernel) (by decide +kernel)
set_option maxRecDepth 20000 in
theorem gX1_readDelta_X1_numberOrNone : GoodIn wsX1_readDelta (va_wsS RX1 229 yX1_numberOrNone wsX1_numberOrNone) := goodIn_app (goodIn_of _ (by decide +kernel)) ggX1_readDelta_X1_numberOrNone
theorem dX1_readDelta_0 : decode cX1_readDelta 0 = .ok (.aload_n 0, 1) := by decide +kernel
theorem dX1_readDelta_1 : decode cX1_readDelta 1 = .ok (.invokevirtual 199, 3) := by decide +kernel
theorem dX1_readDelta_4 : decode cX1_readDelta 4 = .ok (.lstore_n 1, 1) := by decide +kernel
theorem dX1_readDelta_5 : decode cX1_readDelta 5 = .ok (.lload_n 1, 1) := by decide +kernel
theorem dX1_readDelta_6 : decode cX1_readDelta 6 = .ok (.ldc2_w 97, 3) := by decide +kernel
theorem dX1_readDelta_9 : decode cX1_readDelta 9 = .ok (.lcmp, 1) := by decide +kernel
theorem dX1_readDelta_10 : decode cX1_readDelta 10 = .ok (.ifCond .eq 11, 3) := by decide +kernel
theorem dX1_readDelta_13 : decode cX1_readDelta 13 = .ok (.lload_n 1, 1) := by decide +kernel
theorem dX1_readDelta_14 : decode cX1_readDelta 14 = .ok (.ldc2_w 233, 3) := by decide +kernel
theorem dX1_readDelta_17 : decode cX1_readDelta 17 = .ok (.lcmp, 1) := by decide +kernel
theorem dX1_readDelta_18 : decode cX1_readDelta 18 = .ok (.ifCond .le 7, 3) := by decide +kernel
theorem dX1_readDelta_21 : decode cX1_readDelta 21 = .ok (.ldc2_w 97, 3) := by decide +kernel
theorem dX1_readDelta_24 : decode cX1_readDelta 24 = .ok (.lreturn, 1) := by decide +kernel
theorem dX1_readDelta_25 : decode cX1_readDelta 25 = .ok (.aload_n 0, 1) := by decide +kernel
theorem dX1_readDelta_26 : decode cX1_readDelta 26 = .ok (.getfield 12, 3) := by decide +kernel
theorem dX1_readDelta_29 : decode cX1_readDelta 29 = .ok (.lconst 1, 1) := by decide +kernel
theorem dX1_readDelta_30 : decode cX1_readDelta 30 = .ok (.lload_n 1, 1) := by decide +kernel
theorem dX1_readDelta_31 : decode cX1_readDelta 31 = .ok (.l2i, 1) := by decide +kernel
theorem dX1_readDelta_32 : decode cX1_readDelta 32 = .ok (.iconst 1, 1) := by decide +kernel
theorem dX1_readDelta_33 : decode cX1_readDelta 33 = .ok (.isub, 1) := by decide +kernel
theorem dX1_readDelta_34 : decode cX1_readDelta 34 = .ok (.invokevirtual 225, 3) := by decide +kernel
theorem dX1_readDelta_37 : decode cX1_readDelta 37 = .ok (.invokestatic 229, 3) := by decide +kernel
theorem dX1_readDelta_40 : decode cX1_readDelta 40 = .ok (.lreturn, 1) := by decide +kernel
set_option maxRecDepth 20000 in
theorem ggX1_readOmega_X0_readBit : GoodIn wsX1_readOmega wsX0_readBit := goodIn_r _ [8, 9, 10, 11, 12, 7, 13, 14, 15, 16, 17, 32, 33, 34, 35] (by decide +kernel) (by decide +kernel)
set_option maxRecDepth 20000 in
theorem gX1_readOmega_X0_readBit : GoodIn wsX1_readOmega (wsV RX1 222 RX0 yX0_readBit wsX0_readBit) := goodIn_app (goodIn_of _ (by decide +kernel)) ggX1_readOmega_X0_readBit
set_option maxRecDepth 20000 in
theorem ggX1_readOmega_X1_numberOrNone : GoodIn wsX1_readOmega wsX1_numberOrNone := goodIn_r _ [21, 22, 3] (by decide +kernel) (by decide +kernel)
set_option maxRecDepth 20000 in
theorem gX1_readOmega_X1_numberOrNone : GoodIn wsX1_readOmega (va_wsS RX1 229 yX1_numberOrNone wsX1_numberOrNone) := goodIn_app (goodIn_of _ (by decide +kernel)) ggX1_readOmega_X1_numberOrNone
set_option maxRecDepth 20000 in
theorem ggX1_readOmega_X0_readBits : GoodIn wsX1_readOmega wsX0_readBits := goodIn_r _ [26, 27, 9, 10, 11, 12, 7, 13, 14, 15, 16, 17, 32, 33, 34, 35] (by decide +kernel) (by decide +kernel)
set_option maxRecDepth 20000 in
theorem gX1_readOmega_X0_readBits : GoodIn wsX1_readOmega (wsV RX1 225 RX0 yX0_readBits wsX0_readBits) := goodIn_app (goodIn_of _ (by decide +kernel)) ggX1_readOmega_X0_readBits
theorem dX1_readOmega_0 : decode cX1_readOmega 0 = .ok (.lconst 1, 1) := by decide +kernel
theorem dX1_readOmega_1 : decode cX1_readOmega 1 = .ok (.lstore_n 1, 1) := by decide +kernel
theorem dX1_readOmega_2 : decode cX1_readOmega 2 = .ok (.iconst 0, 1) := by decide +kernel
theorem dX1_readOmega_3 : decode cX1_readOmega 3 = .ok (.istore_n 3, 1) := by decide +kernel
theorem dX1_readOmega_4 : decode cX1_readOmega 4 = .ok (.iload_n 3, 1) := by decide +kernel
theorem dX1_readOmega_5 : decode cX1_readOmega 5 = .ok (.bipush 8, 2) := by decide +kernel
theorem dX1_readOmega_7 : decode cX1_readOmega 7 = .ok (.if_icmp .ge 47, 3) := by decide +kernel
theorem dX1_readOmega_10 : decode cX1_readOmega 10 = .ok (.aload_n 0, 1) := by decide +kernel
theorem dX1_readOmega_11 : decode cX1_readOmega 11 = .ok (.getfield 12, 3) := by decide +kernel
theorem dX1_readOmega_14 : decode cX1_readOmega 14 = .ok (.invokevirtual 222, 3) := by decide +kernel
theorem dX1_readOmega_17 : decode cX1_readOmega 17 = .ok (.ifCond .ne 8, 3) := by decide +kernel
theorem dX1_readOmega_20 : decode cX1_readOmega 20 = .ok (.lload_n 1, 1) := by decide +kernel
theorem dX1_readOmega_21 : decode cX1_readOmega 21 = .ok (.invokestatic 229, 3) := by decide +kernel
theorem dX1_readOmega_24 : decode cX1_readOmega 24 = .ok (.lreturn, 1) := by decide +kernel
theorem dX1_readOmega_25 : decode cX1_readOmega 25 = .ok (.lload_n 1, 1) := by decide +kernel
theorem dX1_readOmega_26 : decode cX1_readOmega 26 = .ok (.ldc2_w 233, 3) := by decide +kernel
theorem dX1_readOmega_29 : decode cX1_readOmega 29 = .ok (.lcmp, 1) := by decide +kernel
theorem dX1_readOmega_30 : decode cX1_readOmega 30 = .ok (.ifCond .lt 7, 3) := by decide +kernel
theorem dX1_readOmega_33 : decode cX1_readOmega 33 = .ok (.ldc2_w 97, 3) := by decide +kernel
theorem dX1_readOmega_36 : decode cX1_readOmega 36 = .ok (.lreturn, 1) := by decide +kernel
theorem dX1_readOmega_37 : decode cX1_readOmega 37 = .ok (.aload_n 0, 1) := by decide +kernel
theorem dX1_readOmega_38 : decode cX1_readOmega 38 = .ok (.getfield 12, 3) := by decide +kernel
theorem dX1_readOmega_41 : decode cX1_readOmega 41 = .ok (.lconst 1, 1) := by decide +kernel
theorem dX1_readOmega_42 : decode cX1_readOmega 42 = .ok (.lload_n 1, 1) := by decide +kernel
theorem dX1_readOmega_43 : decode cX1_readOmega 43 = .ok (.l2i, 1) := by decide +kernel
theorem dX1_readOmega_44 : decode cX1_readOmega 44 = .ok (.invokevirtual 225, 3) := by decide +kernel
theorem dX1_readOmega_47 : decode cX1_readOmega 47 = .ok (.lstore_n 1, 1) := by decide +kernel
theorem dX1_readOmega_48 : decode cX1_readOmega 48 = .ok (.iinc 3 1, 3) := by decide +kernel
theorem dX1_readOmega_51 : decode cX1_readOmega 51 = .ok (.goto (-47), 3) := by decide +kernel
theorem dX1_readOmega_54 : decode cX1_readOmega 54 = .ok (.ldc2_w 97, 3) := by decide +kernel
theorem dX1_readOmega_57 : decode cX1_readOmega 57 = .ok (.lreturn, 1) := by decide +kernel
set_option maxRecDepth 20000 in
theorem ggX1_readFibonacci_X0_readBit : GoodIn wsX1_readFibonacci wsX0_readBit := goodIn_r _ [8, 9, 10, 11, 12, 7, 13, 14, 15, 16, 17, 27, 28, 29, 30] (by decide +kernel) (by decide +kernel)
set_option maxRecDepth 20000 in
theorem gX1_readFibonacci_X0_readBit : GoodIn wsX1_readFibonacci (wsV RX1 222 RX0 yX0_readBit wsX0_readBit) := goodIn_app (goodIn_of _ (by decide +kernel)) ggX1_readFibonacci_X0_readBit
set_option maxRecDepth 20000 in
theorem ggX1_readFibonacci_X1_numberOrNone : GoodIn wsX1_readFibonacci wsX1_numberOrNone := goodIn_r _ [21, 22, 3] (by decide +kernel) (by decide +kernel)
set_option maxRecDepth 20000 in
theorem gX1_readFibonacci_X1_numberOrNone : GoodIn wsX1_readFibonacci (va_wsS RX1 229 yX1_numberOrNone wsX1_numberOrNone) := goodIn_app (goodIn_of _ (by decide +kernel)) ggX1_readFibonacci_X1_numberOrNone
theorem dX1_readFibonacci_0 : decode cX1_readFibonacci 0 = .ok (.lconst 0, 1) := by decide +kernel
theorem dX1_readFibonacci_1 : decode cX1_readFibonacci 1 = .ok (.lstore_n 1, 1) := by decide +kernel
theorem dX1_readFibonacci_2 : decode cX1_readFibonacci 2 = .ok (.iconst 0, 1) := by decide +kernel
theorem dX1_readFibonacci_3 : decode cX1_readFibonacci 3 = .ok (.istore_n 3, 1) := by decide +kernel
theorem dX1_readFibonacci_4 : decode cX1_readFibonacci 4 = .ok (.iconst 0, 1) := by decide +kernel
theorem dX1_readFibonacci_5 : decode cX1_readFibonacci 5 = .ok (.istore 4, 2) := by decide +kernel
theorem dX1_readFibonacci_7 : decode cX1_readFibonacci 7 = .ok (.iload 4, 2) := by decide +kernel
theorem dX1_readFibonacci_9 : decode cX1_readFibonacci 9 = .ok (.bipush 89, 2) := by decide +kernel
theorem dX1_readFibonacci_11 : decode cX1_readFibonacci 11 = .ok (.if_icmp .ge 51, 3) := by decide +kernel
theorem dX1_readFibonacci_14 : decode cX1_readFibonacci 14 = .ok (.aload_n 0, 1) := by decide +kernel
theorem dX1_readFibonacci_15 : decode cX1_readFibonacci 15 = .ok (.getfield 12, 3) := by decide +kernel
theorem dX1_readFibonacci_18 : decode cX1_readFibonacci 18 = .ok (.invokevirtual 222, 3) := by decide +kernel
theorem dX1_readFibonacci_21 : decode cX1_readFibonacci 21 = .ok (.istore 5, 2) := by decide +kernel
theorem dX1_readFibonacci_23 : decode cX1_readFibonacci 23 = .ok (.iload 5, 2) := by decide +kernel
theorem dX1_readFibonacci_25 : decode cX1_readFibonacci 25 = .ok (.iconst 1, 1) := by decide +kernel
theorem dX1_readFibonacci_26 : decode cX1_readFibonacci 26 = .ok (.if_icmp .ne 13, 3) := by decide +kernel
theorem dX1_readFibonacci_29 : decode cX1_readFibonacci 29 = .ok (.iload_n 3, 1) := by decide +kernel
theorem dX1_readFibonacci_30 : decode cX1_readFibonacci 30 = .ok (.iconst 1, 1) := by decide +kernel
theorem dX1_readFibonacci_31 : decode cX1_readFibonacci 31 = .ok (.if_icmp .ne 8, 3) := by decide +kernel
theorem dX1_readFibonacci_34 : decode cX1_readFibonacci 34 = .ok (.lload_n 1, 1) := by decide +kernel
theorem dX1_readFibonacci_35 : decode cX1_readFibonacci 35 = .ok (.invokestatic 229, 3) := by decide +kernel
theorem dX1_readFibonacci_38 : decode cX1_readFibonacci 38 = .ok (.lreturn, 1) := by decide +kernel
theorem dX1_readFibonacci_39 : decode cX1_readFibonacci 39 = .ok (.lload_n 1, 1) := by decide +kernel
theorem dX1_readFibonacci_40 : decode cX1_readFibonacci 40 = .ok (.iload 5, 2) := by decide +kernel
theorem dX1_readFibonacci_42 : decode cX1_readFibonacci 42 = .ok (.i2l, 1) := by decide +kernel
theorem dX1_readFibonacci_43 : decode cX1_readFibonacci 43 = .ok (.aload_n 0, 1) := by decide +kernel
theorem dX1_readFibonacci_44 : decode cX1_readFibonacci 44 = .ok (.getfield 24, 3) := by decide +kernel
theorem dX1_readFibonacci_47 : decode cX1_readFibonacci 47 = .ok (.iload 4, 2) := by decide +kernel
theorem dX1_readFibonacci_49 : decode cX1_readFibonacci 49 = .ok (.laload, 1) := by decide +kernel
theorem dX1_readFibonacci_50 : decode cX1_readFibonacci 50 = .ok (.lmul, 1) := by decide +kernel
theorem dX1_readFibonacci_51 : decode cX1_readFibonacci 51 = .ok (.ladd, 1) := by decide +kernel
theorem dX1_readFibonacci_52 : decode cX1_readFibonacci 52 = .ok (.lstore_n 1, 1) := by decide +kernel
theorem dX1_readFibonacci_53 : decode cX1_readFibonacci 53 = .ok (.iload 5, 2) := by decide +kernel
