/-! ===== BEGIN printed: names, fields, word lists, decode rows ===== -/
def RX0 : String := "DecimalWords$Datum"
def TX0 : u_T := fun k => match k with
  | 0 => ("DecimalWords$Datum", "sort", "I", false)
  | 1 => ("DecimalWords$Datum", "minus", "Z", false)
  | 2 => ("DecimalWords$Datum", "coefficient", "J", false)
  | _ => ("DecimalWords$Datum", "exponent", "I", false)
def tyX0 : Nat → FieldType := fun k => match k with
  | 0 => .int
  | 1 => .boolean
  | 2 => .long
  | _ => .int
abbrev wsX00 : List Cond := u_ws RX0 TX0 4
theorem nmX0 : ∀ a, a < 4 → ∀ b, b < 4 → a ≠ b → (TX0 a).2.1 ≠ (TX0 b).2.1 := by decide +kernel
theorem tyX0_ok : ∀ k, k < 4 → parseFieldDescriptor (TX0 k).2.2.1 = some (tyX0 k) := by decide +kernel
abbrev cX0_init : ByteArray := prog_2_method_1_code
def yX0_init : MethodName := ⟨RX0, "<init>", "()V"⟩
abbrev cX0_setFinite : ByteArray := prog_2_method_2_code
def yX0_setFinite : MethodName := ⟨RX0, "setFinite", "(ZJI)V"⟩
abbrev cX0_setInfinity : ByteArray := prog_2_method_3_code
def yX0_setInfinity : MethodName := ⟨RX0, "setInfinity", "(Z)V"⟩
abbrev cX0_setNothing : ByteArray := prog_2_method_4_code
def yX0_setNothing : MethodName := ⟨RX0, "setNothing", "()V"⟩
abbrev cX0_take : ByteArray := prog_2_method_5_code
def yX0_take : MethodName := ⟨RX0, "take", "(LDecimalWords$Datum;)V"⟩
abbrev cX0_isZero : ByteArray := prog_2_method_6_code
def yX0_isZero : MethodName := ⟨RX0, "isZero", "()Z"⟩
abbrev cX0_side : ByteArray := prog_2_method_7_code
def yX0_side : MethodName := ⟨RX0, "side", "()I"⟩
def RX1 : String := "DecimalWords$Outcome"
def TX1 : u_T := fun k => match k with
  | 0 => ("DecimalWords$Outcome", "minus", "Z", false)
  | 1 => ("DecimalWords$Outcome", "high", "J", false)
  | 2 => ("DecimalWords$Outcome", "low", "J", false)
  | 3 => ("DecimalWords$Outcome", "power", "I", false)
  | 4 => ("DecimalWords$Outcome", "more", "Z", false)
  | 5 => ("DecimalWords$Outcome", "wish", "I", false)
  | 6 => ("DecimalWords$Outcome", "kept", "J", false)
  | _ => ("DecimalWords$Outcome", "rest", "I", false)
def tyX1 : Nat → FieldType := fun k => match k with
  | 0 => .boolean
  | 1 => .long
  | 2 => .long
  | 3 => .int
  | 4 => .boolean
  | 5 => .int
  | 6 => .long
  | _ => .int
abbrev wsX10 : List Cond := u_ws RX1 TX1 8
theorem nmX1 : ∀ a, a < 8 → ∀ b, b < 8 → a ≠ b → (TX1 a).2.1 ≠ (TX1 b).2.1 := by decide +kernel
theorem tyX1_ok : ∀ k, k < 8 → parseFieldDescriptor (TX1 k).2.2.1 = some (tyX1 k) := by decide +kernel
abbrev cX1_init : ByteArray := prog_3_method_1_code
def yX1_init : MethodName := ⟨RX1, "<init>", "()V"⟩
abbrev cX1_isZero : ByteArray := prog_3_method_2_code
def yX1_isZero : MethodName := ⟨RX1, "isZero", "()Z"⟩
abbrev cX1_digits : ByteArray := prog_3_method_3_code
def yX1_digits : MethodName := ⟨RX1, "digits", "()I"⟩
abbrev cX1_setWhole : ByteArray := prog_3_method_4_code
def yX1_setWhole : MethodName := ⟨RX1, "setWhole", "(LDecimalWords$Datum;)V"⟩
abbrev cX1_setSum : ByteArray := prog_3_method_5_code
def yX1_setSum : MethodName := ⟨RX1, "setSum", "(LDecimalWords$Datum;LDecimalWords$Datum;ZZ)V"⟩
abbrev cX1_join : ByteArray := prog_3_method_6_code
def yX1_join : MethodName := ⟨RX1, "join", "(LDecimalWords$Datum;LDecimalWords$Datum;Z)V"⟩
abbrev cX1_addToLow : ByteArray := prog_3_method_7_code
def yX1_addToLow : MethodName := ⟨RX1, "addToLow", "(J)V"⟩
abbrev cX1_setProduct : ByteArray := prog_3_method_8_code
def yX1_setProduct : MethodName := ⟨RX1, "setProduct", "(LDecimalWords$Datum;LDecimalWords$Datum;)V"⟩
abbrev cX1_setQuotient : ByteArray := prog_3_method_9_code
def yX1_setQuotient : MethodName := ⟨RX1, "setQuotient", "(LDecimalWords$Datum;LDecimalWords$Datum;)V"⟩
abbrev cX1_dropZeros : ByteArray := prog_3_method_10_code
def yX1_dropZeros : MethodName := ⟨RX1, "dropZeros", "()V"⟩
abbrev cX1_cut : ByteArray := prog_3_method_11_code
def yX1_cut : MethodName := ⟨RX1, "cut", "(I)V"⟩
abbrev cX1_restOf : ByteArray := prog_3_method_12_code
def yX1_restOf : MethodName := ⟨RX1, "restOf", "(JJZ)I"⟩
def RX2 : String := "DecimalWords$Packing"
def TX2 : u_T := fun k => match k with
  | _ => ("", "", "", false)
def tyX2 : Nat → FieldType := fun k => match k with
  | _ => .int
abbrev wsX20 : List Cond := u_ws RX2 TX2 0
theorem nmX2 : ∀ a, a < 0 → ∀ b, b < 0 → a ≠ b → (TX2 a).2.1 ≠ (TX2 b).2.1 := by decide +kernel
theorem tyX2_ok : ∀ k, k < 0 → parseFieldDescriptor (TX2 k).2.2.1 = some (tyX2 k) := by decide +kernel
abbrev cX2_wordOf : ByteArray := prog_4_method_2_code
def yX2_wordOf : MethodName := ⟨RX2, "wordOf", "(LDecimalWords$Datum;Z)J"⟩
abbrev cX2_binaryWord : ByteArray := prog_4_method_3_code
def yX2_binaryWord : MethodName := ⟨RX2, "binaryWord", "(JJ)J"⟩
abbrev cX2_digitWord : ByteArray := prog_4_method_4_code
def yX2_digitWord : MethodName := ⟨RX2, "digitWord", "(JJ)J"⟩
abbrev cX2_groupOf : ByteArray := prog_4_method_5_code
def yX2_groupOf : MethodName := ⟨RX2, "groupOf", "(III)I"⟩
abbrev cX2_read : ByteArray := prog_4_method_6_code
def yX2_read : MethodName := ⟨RX2, "read", "(LDecimalWords$Datum;ZJ)V"⟩
abbrev cX2_readBinary : ByteArray := prog_4_method_7_code
def yX2_readBinary : MethodName := ⟨RX2, "readBinary", "(LDecimalWords$Datum;ZJ)V"⟩
abbrev cX2_readDigits : ByteArray := prog_4_method_8_code
def yX2_readDigits : MethodName := ⟨RX2, "readDigits", "(LDecimalWords$Datum;ZJ)V"⟩
abbrev cX2_digitsOfGroup : ByteArray := prog_4_method_9_code
def yX2_digitsOfGroup : MethodName := ⟨RX2, "digitsOfGroup", "(I)I"⟩
abbrev cX2_digitsOfGreatGroup : ByteArray := prog_4_method_10_code
def yX2_digitsOfGreatGroup : MethodName := ⟨RX2, "digitsOfGreatGroup", "(III)I"⟩
abbrev cX2_three : ByteArray := prog_4_method_11_code
def yX2_three : MethodName := ⟨RX2, "three", "(III)I"⟩
def RX3 : String := "DecimalWords"
def TX3 : u_T := fun k => match k with
  | 0 => ("DecimalWords", "registers", "[LDecimalWords$Datum;", true)
  | 1 => ("DecimalWords", "result", "LDecimalWords$Datum;", true)
  | 2 => ("DecimalWords", "outcome", "LDecimalWords$Outcome;", true)
  | 3 => ("DecimalWords", "rounding", "I", false)
  | 4 => ("DecimalWords", "traps", "I", false)
  | 5 => ("DecimalWords", "standing", "I", false)
  | _ => ("DecimalWords", "raisedNow", "I", false)
def tyX3 : Nat → FieldType := fun k => match k with
  | 0 => .array (.object "DecimalWords$Datum")
  | 1 => .object "DecimalWords$Datum"
  | 2 => .object "DecimalWords$Outcome"
  | 3 => .int
  | 4 => .int
  | 5 => .int
  | _ => .int
abbrev wsX30 : List Cond := u_ws RX3 TX3 7
theorem nmX3 : ∀ a, a < 7 → ∀ b, b < 7 → a ≠ b → (TX3 a).2.1 ≠ (TX3 b).2.1 := by decide +kernel
theorem tyX3_ok : ∀ k, k < 7 → parseFieldDescriptor (TX3 k).2.2.1 = some (tyX3 k) := by decide +kernel
abbrev cX3_init : ByteArray := prog_1_method_1_code
def yX3_init : MethodName := ⟨RX3, "<init>", "()V"⟩
abbrev cX3_put : ByteArray := prog_1_method_2_code
def yX3_put : MethodName := ⟨RX3, "put", "(IZJI)V"⟩
abbrev cX3_apply : ByteArray := prog_1_method_3_code
def yX3_apply : MethodName := ⟨RX3, "apply", "(IIII)V"⟩
abbrev cX3_compare : ByteArray := prog_1_method_4_code
def yX3_compare : MethodName := ⟨RX3, "compare", "(II)I"⟩
abbrev cX3_kind : ByteArray := prog_1_method_5_code
def yX3_kind : MethodName := ⟨RX3, "kind", "(I)I"⟩
abbrev cX3_coefficient : ByteArray := prog_1_method_6_code
def yX3_coefficient : MethodName := ⟨RX3, "coefficient", "(I)J"⟩
abbrev cX3_exponent : ByteArray := prog_1_method_7_code
def yX3_exponent : MethodName := ⟨RX3, "exponent", "(I)I"⟩
abbrev cX3_pack : ByteArray := prog_1_method_8_code
def yX3_pack : MethodName := ⟨RX3, "pack", "(II)J"⟩
abbrev cX3_unpack : ByteArray := prog_1_method_9_code
def yX3_unpack : MethodName := ⟨RX3, "unpack", "(IIJ)V"⟩
abbrev cX3_mode : ByteArray := prog_1_method_10_code
def yX3_mode : MethodName := ⟨RX3, "mode", "(I)V"⟩
abbrev cX3_trap : ByteArray := prog_1_method_11_code
def yX3_trap : MethodName := ⟨RX3, "trap", "(I)V"⟩
abbrev cX3_flags : ByteArray := prog_1_method_12_code
def yX3_flags : MethodName := ⟨RX3, "flags", "()I"⟩
abbrev cX3_lower : ByteArray := prog_1_method_13_code
def yX3_lower : MethodName := ⟨RX3, "lower", "()V"⟩
abbrev cX3_sum : ByteArray := prog_1_method_14_code
def yX3_sum : MethodName := ⟨RX3, "sum", "(III)I"⟩
abbrev cX3_needRegister : ByteArray := prog_1_method_15_code
def yX3_needRegister : MethodName := ⟨RX3, "needRegister", "(I)V"⟩
abbrev cX3_needWay : ByteArray := prog_1_method_16_code
def yX3_needWay : MethodName := ⟨RX3, "needWay", "(I)V"⟩
abbrev cX3_operate : ByteArray := prog_1_method_17_code
def yX3_operate : MethodName := ⟨RX3, "operate", "(IIII)Z"⟩
abbrev cX3_setResult : ByteArray := prog_1_method_18_code
def yX3_setResult : MethodName := ⟨RX3, "setResult", "(ILDecimalWords$Datum;LDecimalWords$Datum;)V"⟩
abbrev cX3_setFromInfinity : ByteArray := prog_1_method_19_code
def yX3_setFromInfinity : MethodName := ⟨RX3, "setFromInfinity", "(ILDecimalWords$Datum;LDecimalWords$Datum;)V"⟩
abbrev cX3_addInfinity : ByteArray := prog_1_method_20_code
def yX3_addInfinity : MethodName := ⟨RX3, "addInfinity", "(LDecimalWords$Datum;LDecimalWords$Datum;Z)V"⟩
abbrev cX3_setFromFinite : ByteArray := prog_1_method_21_code
def yX3_setFromFinite : MethodName := ⟨RX3, "setFromFinite", "(ILDecimalWords$Datum;LDecimalWords$Datum;)V"⟩
abbrev cX3_divideByZero : ByteArray := prog_1_method_22_code
def yX3_divideByZero : MethodName := ⟨RX3, "divideByZero", "(LDecimalWords$Datum;LDecimalWords$Datum;)V"⟩
abbrev cX3_quantize : ByteArray := prog_1_method_23_code
def yX3_quantize : MethodName := ⟨RX3, "quantize", "(LDecimalWords$Datum;I)V"⟩
abbrev cX3_setNext : ByteArray := prog_1_method_24_code
def yX3_setNext : MethodName := ⟨RX3, "setNext", "(LDecimalWords$Datum;)V"⟩
abbrev cX3_stepToZero : ByteArray := prog_1_method_25_code
def yX3_stepToZero : MethodName := ⟨RX3, "stepToZero", "(JI)V"⟩
abbrev cX3_stepFromZero : ByteArray := prog_1_method_26_code
def yX3_stepFromZero : MethodName := ⟨RX3, "stepFromZero", "(JI)V"⟩
abbrev cX3_raise : ByteArray := prog_1_method_27_code
def yX3_raise : MethodName := ⟨RX3, "raise", "(I)V"⟩
abbrev cX3_setInvalid : ByteArray := prog_1_method_28_code
def yX3_setInvalid : MethodName := ⟨RX3, "setInvalid", "()V"⟩
abbrev cX3_fit : ByteArray := prog_1_method_29_code
def yX3_fit : MethodName := ⟨RX3, "fit", "()V"⟩
abbrev cX3_fitWithoutRest : ByteArray := prog_1_method_30_code
def yX3_fitWithoutRest : MethodName := ⟨RX3, "fitWithoutRest", "()Z"⟩
abbrev cX3_fitRounded : ByteArray := prog_1_method_31_code
def yX3_fitRounded : MethodName := ⟨RX3, "fitRounded", "()V"⟩
abbrev cX3_setTooGreat : ByteArray := prog_1_method_32_code
def yX3_setTooGreat : MethodName := ⟨RX3, "setTooGreat", "()V"⟩
abbrev cX3_roundedKept : ByteArray := prog_1_method_33_code
def yX3_roundedKept : MethodName := ⟨RX3, "roundedKept", "(Z)J"⟩
abbrev cX3_order : ByteArray := prog_1_method_34_code
def yX3_order : MethodName := ⟨RX3, "order", "(LDecimalWords$Datum;LDecimalWords$Datum;)I"⟩
abbrev cX3_orderOfSizes : ByteArray := prog_1_method_35_code
def yX3_orderOfSizes : MethodName := ⟨RX3, "orderOfSizes", "(LDecimalWords$Datum;LDecimalWords$Datum;)I"⟩
abbrev cX3_orderOf : ByteArray := prog_1_method_36_code
def yX3_orderOf : MethodName := ⟨RX3, "orderOf", "(JJ)I"⟩
abbrev cX3_tenTo : ByteArray := prog_1_method_37_code
def yX3_tenTo : MethodName := ⟨RX3, "tenTo", "(I)J"⟩
abbrev cX3_digitsOf : ByteArray := prog_1_method_38_code
def yX3_digitsOf : MethodName := ⟨RX3, "digitsOf", "(J)I"⟩
def RX4 : String := "DecimalWordsModel"
def TX4 : u_T := fun k => match k with
  | 0 => ("DecimalWordsModel", "thrown", "I", false)
  | 1 => ("DecimalWordsModel", "kinds", "[I", false)
  | 2 => ("DecimalWordsModel", "minus", "[Z", false)
  | 3 => ("DecimalWordsModel", "coefficients", "[J", false)
  | 4 => ("DecimalWordsModel", "exponents", "[I", false)
  | 5 => ("DecimalWordsModel", "mode", "I", false)
  | 6 => ("DecimalWordsModel", "flags", "I", false)
  | 7 => ("DecimalWordsModel", "traps", "I", false)
  | 8 => ("DecimalWordsModel", "kind", "I", false)
  | 9 => ("DecimalWordsModel", "negative", "Z", false)
  | 10 => ("DecimalWordsModel", "c", "J", false)
  | 11 => ("DecimalWordsModel", "q", "I", false)
  | 12 => ("DecimalWordsModel", "raised", "I", false)
  | 13 => ("DecimalWordsModel", "count", "I", false)
  | 14 => ("DecimalWordsModel", "digits", "[I", false)
  | 15 => ("DecimalWordsModel", "others", "[I", false)
  | 16 => ("DecimalWordsModel", "unit", "I", false)
  | _ => ("DecimalWordsModel", "rest", "Z", false)
def tyX4 : Nat → FieldType := fun k => match k with
  | 0 => .int
  | 1 => .array .int
  | 2 => .array .boolean
  | 3 => .array .long
  | 4 => .array .int
  | 5 => .int
  | 6 => .int
  | 7 => .int
  | 8 => .int
  | 9 => .boolean
  | 10 => .long
  | 11 => .int
  | 12 => .int
  | 13 => .int
  | 14 => .array .int
  | 15 => .array .int
  | 16 => .int
  | _ => .boolean
abbrev wsX40 : List Cond := u_ws RX4 TX4 18
theorem nmX4 : ∀ a, a < 18 → ∀ b, b < 18 → a ≠ b → (TX4 a).2.1 ≠ (TX4 b).2.1 := by decide +kernel
theorem tyX4_ok : ∀ k, k < 18 → parseFieldDescriptor (TX4 k).2.2.1 = some (tyX4 k) := by decide +kernel
abbrev cX4_init : ByteArray := prog_6_method_1_code
def yX4_init : MethodName := ⟨RX4, "<init>", "()V"⟩
abbrev cX4_thrown : ByteArray := prog_6_method_2_code
def yX4_thrown : MethodName := ⟨RX4, "thrown", "()I"⟩
abbrev cX4_clear : ByteArray := prog_6_method_3_code
def yX4_clear : MethodName := ⟨RX4, "clear", "()V"⟩
abbrev cX4_lay : ByteArray := prog_6_method_4_code
def yX4_lay : MethodName := ⟨RX4, "lay", "(JI)V"⟩
abbrev cX4_layOther : ByteArray := prog_6_method_5_code
def yX4_layOther : MethodName := ⟨RX4, "layOther", "(JI)V"⟩
abbrev cX4_trim : ByteArray := prog_6_method_6_code
def yX4_trim : MethodName := ⟨RX4, "trim", "()V"⟩
abbrev cX4_whole : ByteArray := prog_6_method_7_code
def yX4_whole : MethodName := ⟨RX4, "whole", "(I)J"⟩
abbrev cX4_times : ByteArray := prog_6_method_8_code
def yX4_times : MethodName := ⟨RX4, "times", "(JI)J"⟩
abbrev cX4_be : ByteArray := prog_6_method_9_code
def yX4_be : MethodName := ⟨RX4, "be", "(IZJI)V"⟩
abbrev cX4_invalid : ByteArray := prog_6_method_10_code
def yX4_invalid : MethodName := ⟨RX4, "invalid", "()V"⟩
abbrev cX4_between : ByteArray := prog_6_method_11_code
def yX4_between : MethodName := ⟨RX4, "between", "(III)I"⟩
abbrev cX4_rounded : ByteArray := prog_6_method_12_code
def yX4_rounded : MethodName := ⟨RX4, "rounded", "(IZ)J"⟩
abbrev cX4_fit : ByteArray := prog_6_method_13_code
def yX4_fit : MethodName := ⟨RX4, "fit", "(ZI)V"⟩
abbrev cX4_great : ByteArray := prog_6_method_14_code
def yX4_great : MethodName := ⟨RX4, "great", "(Z)V"⟩
abbrev cX4_is : ByteArray := prog_6_method_15_code
def yX4_is : MethodName := ⟨RX4, "is", "(II)Z"⟩
abbrev cX4_less : ByteArray := prog_6_method_16_code
def yX4_less : MethodName := ⟨RX4, "less", "()Z"⟩
abbrev cX4_addDigits : ByteArray := prog_6_method_17_code
def yX4_addDigits : MethodName := ⟨RX4, "addDigits", "()V"⟩
abbrev cX4_subtractDigits : ByteArray := prog_6_method_18_code
def yX4_subtractDigits : MethodName := ⟨RX4, "subtractDigits", "()Z"⟩
abbrev cX4_add : ByteArray := prog_6_method_19_code
def yX4_add : MethodName := ⟨RX4, "add", "(IIZ)V"⟩
abbrev cX4_multiply : ByteArray := prog_6_method_20_code
def yX4_multiply : MethodName := ⟨RX4, "multiply", "(II)V"⟩
abbrev cX4_divide : ByteArray := prog_6_method_21_code
def yX4_divide : MethodName := ⟨RX4, "divide", "(II)V"⟩
abbrev cX4_quantize : ByteArray := prog_6_method_22_code
def yX4_quantize : MethodName := ⟨RX4, "quantize", "(II)V"⟩
abbrev cX4_lengthOf : ByteArray := prog_6_method_23_code
def yX4_lengthOf : MethodName := ⟨RX4, "lengthOf", "(J)I"⟩
abbrev cX4_compareSizes : ByteArray := prog_6_method_24_code
def yX4_compareSizes : MethodName := ⟨RX4, "compareSizes", "(II)I"⟩
abbrev cX4_signOf : ByteArray := prog_6_method_25_code
def yX4_signOf : MethodName := ⟨RX4, "signOf", "(I)I"⟩
abbrev cX4_order : ByteArray := prog_6_method_26_code
def yX4_order : MethodName := ⟨RX4, "order", "(II)I"⟩
abbrev cX4_next : ByteArray := prog_6_method_27_code
def yX4_next : MethodName := ⟨RX4, "next", "(I)V"⟩
abbrev cX4_copy : ByteArray := prog_6_method_28_code
def yX4_copy : MethodName := ⟨RX4, "copy", "(I)V"⟩
abbrev cX4_operate : ByteArray := prog_6_method_29_code
def yX4_operate : MethodName := ⟨RX4, "operate", "(III)V"⟩
abbrev cX4_noRegister : ByteArray := prog_6_method_30_code
def yX4_noRegister : MethodName := ⟨RX4, "noRegister", "(I)Z"⟩
abbrev cX4_store : ByteArray := prog_6_method_31_code
def yX4_store : MethodName := ⟨RX4, "store", "(I)V"⟩
abbrev cX4_apply : ByteArray := prog_6_method_32_code
def yX4_apply : MethodName := ⟨RX4, "apply", "(IIII)V"⟩
abbrev cX4_sum : ByteArray := prog_6_method_33_code
def yX4_sum : MethodName := ⟨RX4, "sum", "(III)I"⟩
abbrev cX4_put : ByteArray := prog_6_method_34_code
def yX4_put : MethodName := ⟨RX4, "put", "(IZJI)V"⟩
abbrev cX4_compare : ByteArray := prog_6_method_35_code
def yX4_compare : MethodName := ⟨RX4, "compare", "(II)I"⟩
abbrev cX4_kind : ByteArray := prog_6_method_36_code
def yX4_kind : MethodName := ⟨RX4, "kind", "(I)I"⟩
abbrev cX4_coefficient : ByteArray := prog_6_method_37_code
def yX4_coefficient : MethodName := ⟨RX4, "coefficient", "(I)J"⟩
abbrev cX4_exponent : ByteArray := prog_6_method_38_code
def yX4_exponent : MethodName := ⟨RX4, "exponent", "(I)I"⟩
abbrev cX4_ten : ByteArray := prog_6_method_39_code
def yX4_ten : MethodName := ⟨RX4, "ten", "(III)I"⟩
abbrev cX4_three : ByteArray := prog_6_method_40_code
def yX4_three : MethodName := ⟨RX4, "three", "(I)I"⟩
abbrev cX4_packDigits : ByteArray := prog_6_method_41_code
def yX4_packDigits : MethodName := ⟨RX4, "packDigits", "(I)J"⟩
abbrev cX4_pack : ByteArray := prog_6_method_42_code
def yX4_pack : MethodName := ⟨RX4, "pack", "(II)J"⟩
abbrev cX4_unpack : ByteArray := prog_6_method_43_code
def yX4_unpack : MethodName := ⟨RX4, "unpack", "(IIJ)V"⟩
abbrev cX4_mode : ByteArray := prog_6_method_44_code
def yX4_mode : MethodName := ⟨RX4, "mode", "(I)V"⟩
abbrev cX4_trap : ByteArray := prog_6_method_45_code
def yX4_trap : MethodName := ⟨RX4, "trap", "(I)V"⟩
abbrev cX4_flags : ByteArray := prog_6_method_46_code
def yX4_flags : MethodName := ⟨RX4, "flags", "()I"⟩
abbrev cX4_lower : ByteArray := prog_6_method_47_code
def yX4_lower : MethodName := ⟨RX4, "lower", "()V"⟩
def RJx00060 : String := "java/lang/ArrayIndexOutOfBoundsException"
def TJx00060 : u_T := fun k => match k with
  | 0 => ("java/lang/Throwable", "backtrace", "Ljava/lang/Object;", false)
  | 1 => ("java/lang/Throwable", "detailMessage", "Ljava/lang/String;", false)
  | 2 => ("java/lang/Throwable", "cause", "Ljava/lang/Throwable;", false)
  | 3 => ("java/lang/Throwable", "stackTrace", "[Ljava/lang/StackTraceElement;", false)
  | 4 => ("java/lang/Throwable", "depth", "I", false)
  | _ => ("java/lang/Throwable", "suppressedExceptions", "Ljava/util/List;", false)
def tyJx00060 : Nat → FieldType := fun k => match k with
  | 0 => .object "java/lang/Object"
  | 1 => .object "java/lang/String"
  | 2 => .object "java/lang/Throwable"
  | 3 => .array (.object "java/lang/StackTraceElement")
  | 4 => .int
  | _ => .object "java/util/List"
abbrev wsJx000600 : List Cond := u_ws RJx00060 TJx00060 6
theorem nmJx00060 : ∀ a, a < 6 → ∀ b, b < 6 → a ≠ b → (TJx00060 a).2.1 ≠ (TJx00060 b).2.1 := by decide +kernel
theorem tyJx00060_ok : ∀ k, k < 6 → parseFieldDescriptor (TJx00060 k).2.2.1 = some (tyJx00060 k) := by decide +kernel
abbrev cJx00060_init_a7421 : ByteArray := prog_8_method_2_code
def yJx00060_init_a7421 : MethodName := ⟨RJx00060, "<init>", "(Ljava/lang/String;)V"⟩
def RJ9 : String := "java/lang/Math"
def TJ9 : u_T := fun k => match k with
  | _ => ("", "", "", false)
def tyJ9 : Nat → FieldType := fun k => match k with
  | _ => .int
abbrev wsJ90 : List Cond := u_ws RJ9 TJ9 0
theorem nmJ9 : ∀ a, a < 0 → ∀ b, b < 0 → a ≠ b → (TJ9 a).2.1 ≠ (TJ9 b).2.1 := by decide +kernel
theorem tyJ9_ok : ∀ k, k < 0 → parseFieldDescriptor (TJ9 k).2.2.1 = some (tyJ9 k) := by decide +kernel
abbrev cJ9_max_7cf53 : ByteArray := prog_12_method_65_code
def yJ9_max_7cf53 : MethodName := ⟨RJ9, "max", "(II)I"⟩
abbrev cJ9_max_f86c9 : ByteArray := prog_12_method_66_code
def yJ9_max_f86c9 : MethodName := ⟨RJ9, "max", "(JJ)J"⟩
abbrev cJ9_min_7cf53 : ByteArray := prog_12_method_69_code
def yJ9_min_7cf53 : MethodName := ⟨RJ9, "min", "(II)I"⟩
def RJ0 : String := "java/lang/String"
def TJ0 : u_T := fun k => match k with
  | 0 => ("java/lang/String", "value", "[B", true)
  | _ => ("java/lang/String", "coder", "B", true)
def tyJ0 : Nat → FieldType := fun k => match k with
  | 0 => .array .byte
  | _ => .byte
abbrev wsJ00 : List Cond := u_ws RJ0 TJ0 2
theorem nmJ0 : ∀ a, a < 2 → ∀ b, b < 2 → a ≠ b → (TJ0 a).2.1 ≠ (TJ0 b).2.1 := by decide +kernel
theorem tyJ0_ok : ∀ k, k < 2 → parseFieldDescriptor (TJ0 k).2.2.1 = some (tyJ0 k) := by decide +kernel
def RL : String := "DecimalWordsLaw"
abbrev cL_put : ByteArray := method_3_code
def yL_put : MethodName := ⟨RL, "put", "(LDecimalWords;IZJI)I"⟩
abbrev cL_apply : ByteArray := method_4_code
def yL_apply : MethodName := ⟨RL, "apply", "(LDecimalWords;IIII)I"⟩
abbrev cL_compare : ByteArray := method_5_code
def yL_compare : MethodName := ⟨RL, "compare", "(LDecimalWords;II[J)I"⟩
abbrev cL_kind : ByteArray := method_6_code
def yL_kind : MethodName := ⟨RL, "kind", "(LDecimalWords;I[J)I"⟩
abbrev cL_coefficient : ByteArray := method_7_code
def yL_coefficient : MethodName := ⟨RL, "coefficient", "(LDecimalWords;I[J)I"⟩
abbrev cL_exponent : ByteArray := method_8_code
def yL_exponent : MethodName := ⟨RL, "exponent", "(LDecimalWords;I[J)I"⟩
abbrev cL_pack : ByteArray := method_9_code
def yL_pack : MethodName := ⟨RL, "pack", "(LDecimalWords;II[J)I"⟩
abbrev cL_unpack : ByteArray := method_10_code
def yL_unpack : MethodName := ⟨RL, "unpack", "(LDecimalWords;IIJ)I"⟩
abbrev cL_mode : ByteArray := method_11_code
def yL_mode : MethodName := ⟨RL, "mode", "(LDecimalWords;I)I"⟩
abbrev cL_trap : ByteArray := method_12_code
def yL_trap : MethodName := ⟨RL, "trap", "(LDecimalWords;I)I"⟩
abbrev cL_sum : ByteArray := method_13_code
def yL_sum : MethodName := ⟨RL, "sum", "(LDecimalWords;III[J)I"⟩
abbrev cL_law : ByteArray := code
def yL_law : MethodName := ⟨RL, "law", "([I)Z"⟩
theorem dJx00060_init_a7421_0 : decode cJx00060_init_a7421 0 = .ok (.aload_n 0, 1) := by decide +kernel
theorem dJx00060_init_a7421_1 : decode cJx00060_init_a7421 1 = .ok (.aload_n 1, 1) := by decide +kernel
theorem dJx00060_init_a7421_2 : decode cJx00060_init_a7421 2 = .ok (.invokespecial 7, 3) := by decide +kernel
theorem dJx00060_init_a7421_5 : decode cJx00060_init_a7421 5 = .ok (.return_, 1) := by decide +kernel
theorem dJ9_max_7cf53_0 : decode cJ9_max_7cf53 0 = .ok (.iload_n 0, 1) := by decide +kernel
theorem dJ9_max_7cf53_1 : decode cJ9_max_7cf53 1 = .ok (.iload_n 1, 1) := by decide +kernel
theorem dJ9_max_7cf53_2 : decode cJ9_max_7cf53 2 = .ok (.if_icmp .lt 7, 3) := by decide +kernel
theorem dJ9_max_7cf53_5 : decode cJ9_max_7cf53 5 = .ok (.iload_n 0, 1) := by decide +kernel
theorem dJ9_max_7cf53_6 : decode cJ9_max_7cf53 6 = .ok (.goto 4, 3) := by decide +kernel
theorem dJ9_max_7cf53_9 : decode cJ9_max_7cf53 9 = .ok (.iload_n 1, 1) := by decide +kernel
theorem dJ9_max_7cf53_10 : decode cJ9_max_7cf53 10 = .ok (.ireturn, 1) := by decide +kernel
theorem dJ9_max_f86c9_0 : decode cJ9_max_f86c9 0 = .ok (.lload_n 0, 1) := by decide +kernel
theorem dJ9_max_f86c9_1 : decode cJ9_max_f86c9 1 = .ok (.lload_n 2, 1) := by decide +kernel
theorem dJ9_max_f86c9_2 : decode cJ9_max_f86c9 2 = .ok (.lcmp, 1) := by decide +kernel
theorem dJ9_max_f86c9_3 : decode cJ9_max_f86c9 3 = .ok (.ifCond .lt 7, 3) := by decide +kernel
theorem dJ9_max_f86c9_6 : decode cJ9_max_f86c9 6 = .ok (.lload_n 0, 1) := by decide +kernel
theorem dJ9_max_f86c9_7 : decode cJ9_max_f86c9 7 = .ok (.goto 4, 3) := by decide +kernel
theorem dJ9_max_f86c9_10 : decode cJ9_max_f86c9 10 = .ok (.lload_n 2, 1) := by decide +kernel
theorem dJ9_max_f86c9_11 : decode cJ9_max_f86c9 11 = .ok (.lreturn, 1) := by decide +kernel
theorem dJ9_min_7cf53_0 : decode cJ9_min_7cf53 0 = .ok (.iload_n 0, 1) := by decide +kernel
theorem dJ9_min_7cf53_1 : decode cJ9_min_7cf53 1 = .ok (.iload_n 1, 1) := by decide +kernel
theorem dJ9_min_7cf53_2 : decode cJ9_min_7cf53 2 = .ok (.if_icmp .gt 7, 3) := by decide +kernel
theorem dJ9_min_7cf53_5 : decode cJ9_min_7cf53 5 = .ok (.iload_n 0, 1) := by decide +kernel
theorem dJ9_min_7cf53_6 : decode cJ9_min_7cf53 6 = .ok (.goto 4, 3) := by decide +kernel
theorem dJ9_min_7cf53_9 : decode cJ9_min_7cf53 9 = .ok (.iload_n 1, 1) := by decide +kernel
theorem dJ9_min_7cf53_10 : decode cJ9_min_7cf53 10 = .ok (.ireturn, 1) := by decide +kernel
abbrev vwCl : List vw_C := [(RJ0, TJ0, 2), (RJx00060, TJx00060, 6), (RX0, TX0, 4), (RX1, TX1, 8), (RX3, TX3, 7), (RX4, TX4, 18)]
