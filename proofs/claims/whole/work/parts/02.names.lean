/-! names, tables and words, by program (wip/prog/names.py) -/
def T_CD : u_T := fun k => match k with
  | 0 => ("BigDesk$CommonDivisor", "larger", "LBigDesk$Whole;", false)
  | 1 => ("BigDesk$CommonDivisor", "smaller", "LBigDesk$Whole;", false)
  | 2 => ("BigDesk$CommonDivisor", "firstLarger", "J", false)
  | 3 => ("BigDesk$CommonDivisor", "firstSmaller", "J", false)
  | 4 => ("BigDesk$CommonDivisor", "secondLarger", "J", false)
  | _ => ("BigDesk$CommonDivisor", "secondSmaller", "J", false)
def t_CD : Nat → FieldType := fun k => match k with
  | 0 => (.object "BigDesk$Whole")
  | 1 => (.object "BigDesk$Whole")
  | 2 => .long
  | 3 => .long
  | 4 => .long
  | _ => .long
theorem n_CD : ∀ a, a < 6 → ∀ b, b < 6 → a ≠ b → (T_CD a).2.1 ≠ (T_CD b).2.1 := by decide +kernel
theorem o_CD : ∀ k, k < 6 → parseFieldDescriptor (T_CD k).2.2.1 = some (t_CD k) := by decide +kernel
def T_DV : u_T := fun k => match k with
  | 0 => ("BigDesk$Division", "quotient", "LBigDesk$Whole;", true)
  | 1 => ("BigDesk$Division", "remainder", "LBigDesk$Whole;", true)
  | _ => ("BigDesk$Division", "scaled", "LBigDesk$Whole;", true)
def t_DV : Nat → FieldType := fun k => match k with
  | 0 => (.object "BigDesk$Whole")
  | 1 => (.object "BigDesk$Whole")
  | _ => (.object "BigDesk$Whole")
theorem n_DV : ∀ a, a < 3 → ∀ b, b < 3 → a ≠ b → (T_DV a).2.1 ≠ (T_DV b).2.1 := by decide +kernel
theorem o_DV : ∀ k, k < 3 → parseFieldDescriptor (T_DV k).2.2.1 = some (t_DV k) := by decide +kernel
def T_WH : u_T := fun k => match k with
  | 0 => ("BigDesk$Whole", "limbs", "[J", true)
  | 1 => ("BigDesk$Whole", "size", "I", false)
  | _ => ("BigDesk$Whole", "negative", "Z", false)
def t_WH : Nat → FieldType := fun k => match k with
  | 0 => (.array .long)
  | 1 => .int
  | _ => .boolean
theorem n_WH : ∀ a, a < 3 → ∀ b, b < 3 → a ≠ b → (T_WH a).2.1 ≠ (T_WH b).2.1 := by decide +kernel
theorem o_WH : ∀ k, k < 3 → parseFieldDescriptor (T_WH k).2.2.1 = some (t_WH k) := by decide +kernel
def T_BD : u_T := fun k => match k with
  | 0 => ("BigDesk", "registers", "[LBigDesk$Whole;", true)
  | 1 => ("BigDesk", "made", "LBigDesk$Whole;", true)
  | 2 => ("BigDesk", "small", "LBigDesk$Whole;", true)
  | 3 => ("BigDesk", "division", "LBigDesk$Division;", true)
  | 4 => ("BigDesk", "commonDivisor", "LBigDesk$CommonDivisor;", true)
  | 5 => ("BigDesk", "tape", "[B", true)
  | 6 => ("BigDesk", "tapeLength", "I", false)
  | 7 => ("BigDesk", "written", "[B", true)
  | _ => ("BigDesk", "writtenLength", "I", false)
def t_BD : Nat → FieldType := fun k => match k with
  | 0 => (.array (.object "BigDesk$Whole"))
  | 1 => (.object "BigDesk$Whole")
  | 2 => (.object "BigDesk$Whole")
  | 3 => (.object "BigDesk$Division")
  | 4 => (.object "BigDesk$CommonDivisor")
  | 5 => (.array .byte)
  | 6 => .int
  | 7 => (.array .byte)
  | _ => .int
theorem n_BD : ∀ a, a < 9 → ∀ b, b < 9 → a ≠ b → (T_BD a).2.1 ≠ (T_BD b).2.1 := by decide +kernel
theorem o_BD : ∀ k, k < 9 → parseFieldDescriptor (T_BD k).2.2.1 = some (t_BD k) := by decide +kernel
def T_MO : u_T := fun k => match k with
  | 0 => ("BigDeskModel", "thrown", "I", false)
  | 1 => ("BigDeskModel", "digit", "[I", true)
  | 2 => ("BigDeskModel", "size", "[I", true)
  | 3 => ("BigDeskModel", "sign", "[I", true)
  | 4 => ("BigDeskModel", "tape", "[I", true)
  | 5 => ("BigDeskModel", "taped", "I", false)
  | 6 => ("BigDeskModel", "text", "[I", true)
  | _ => ("BigDeskModel", "written", "I", false)
def t_MO : Nat → FieldType := fun k => match k with
  | 0 => .int
  | 1 => (.array .int)
  | 2 => (.array .int)
  | 3 => (.array .int)
  | 4 => (.array .int)
  | 5 => .int
  | 6 => (.array .int)
  | _ => .int
theorem n_MO : ∀ a, a < 8 → ∀ b, b < 8 → a ≠ b → (T_MO a).2.1 ≠ (T_MO b).2.1 := by decide +kernel
theorem o_MO : ∀ k, k < 8 → parseFieldDescriptor (T_MO k).2.2.1 = some (t_MO k) := by decide +kernel
abbrev ah_cl : List vw_C := [("BigDesk$CommonDivisor", T_CD, 6), ("BigDesk$Division", T_DV, 3), ("BigDesk$Whole", T_WH, 3), ("BigDesk", T_BD, 9), ("BigDeskModel", T_MO, 8)]
def ah_tab : List (List (Nat × Nat)) := [[(2, 0), (2, 1), (1, 0), (1, 1), (1, 2), (1, 3)], [(2, 2), (2, 3), (2, 4)], [(2, 5), (0, 0), (0, 1)], [(2, 6), (2, 7), (2, 8), (2, 9), (2, 10), (2, 11), (0, 2), (2, 12), (0, 3)], [(0, 4), (2, 13), (2, 14), (2, 15), (2, 16), (0, 5), (2, 17), (0, 6)]]
def ah_tys : List (Nat × FieldType) := [(100, .int), (101, .byte), (110, .long), (120, .object "BigDesk$Whole")]
def zx_T : List Cond := lw_tbl.filter goodWord
theorem zx_in {w : Cond} (i : Nat) (h : lw_tbl[i]? = some w) (hg : goodWord w = true) : w ∈ zx_T := List.mem_filter.mpr ⟨List.mem_of_getElem? h, hg⟩
def y_BD_init : MethodName := ⟨"BigDesk", "<init>", "()V"⟩
abbrev b_BD_init : ByteArray := prog_1_method_1_code
def y_WH_init : MethodName := ⟨"BigDesk$Whole", "<init>", "()V"⟩
abbrev b_WH_init : ByteArray := prog_6_method_1_code
def y_DV_init : MethodName := ⟨"BigDesk$Division", "<init>", "()V"⟩
abbrev b_DV_init : ByteArray := prog_3_method_1_code
def y_CD_init : MethodName := ⟨"BigDesk$CommonDivisor", "<init>", "()V"⟩
abbrev b_CD_init : ByteArray := prog_2_method_1_code
def y_LW_set : MethodName := ⟨"BigDeskLaw", "set", "(LBigDesk;IJ)I"⟩
abbrev b_LW_set : ByteArray := method_3_code
def y_BD_set : MethodName := ⟨"BigDesk", "set", "(IJ)V"⟩
abbrev b_BD_set : ByteArray := prog_1_method_2_code
def y_BD_register : MethodName := ⟨"BigDesk", "register", "(I)LBigDesk$Whole;"⟩
abbrev b_BD_register : ByteArray := prog_1_method_23_code
def y_WH_becomeLong : MethodName := ⟨"BigDesk$Whole", "becomeLong", "(J)V"⟩
abbrev b_WH_becomeLong : ByteArray := prog_6_method_4_code
def y_WH_settle : MethodName := ⟨"BigDesk$Whole", "settle", "(I)V"⟩
abbrev b_WH_settle : ByteArray := prog_6_method_7_code
def y_WH_markSign : MethodName := ⟨"BigDesk$Whole", "markSign", "(Z)V"⟩
abbrev b_WH_markSign : ByteArray := prog_6_method_8_code
def y_LW_copy : MethodName := ⟨"BigDeskLaw", "copy", "(LBigDesk;II)I"⟩
abbrev b_LW_copy : ByteArray := method_4_code
def y_BD_copy : MethodName := ⟨"BigDesk", "copy", "(II)V"⟩
abbrev b_BD_copy : ByteArray := prog_1_method_3_code
def y_WH_become : MethodName := ⟨"BigDesk$Whole", "become", "(LBigDesk$Whole;)V"⟩
abbrev b_WH_become : ByteArray := prog_6_method_3_code
def y_LW_add : MethodName := ⟨"BigDeskLaw", "add", "(LBigDesk;III)I"⟩
abbrev b_LW_add : ByteArray := method_5_code
def y_BD_add : MethodName := ⟨"BigDesk", "add", "(III)V"⟩
abbrev b_BD_add : ByteArray := prog_1_method_4_code
def y_SU_total : MethodName := ⟨"BigDesk$Sums", "total", "(LBigDesk$Whole;LBigDesk$Whole;LBigDesk$Whole;Z)V"⟩
abbrev b_SU_total : ByteArray := prog_4_method_2_code
def y_SU_sumOfAbsolutes : MethodName := ⟨"BigDesk$Sums", "sumOfAbsolutes", "(LBigDesk$Whole;LBigDesk$Whole;LBigDesk$Whole;)V"⟩
abbrev b_SU_sumOfAbsolutes : ByteArray := prog_4_method_4_code
def y_JM_max : MethodName := ⟨"java/lang/Math", "max", "(II)I"⟩
abbrev b_JM_max : ByteArray := prog_14_method_65_code
def y_JM_min : MethodName := ⟨"java/lang/Math", "min", "(II)I"⟩
abbrev b_JM_min : ByteArray := prog_14_method_69_code
def y_SU_orderOfAbsolutes : MethodName := ⟨"BigDesk$Sums", "orderOfAbsolutes", "(LBigDesk$Whole;LBigDesk$Whole;)I"⟩
abbrev b_SU_orderOfAbsolutes : ByteArray := prog_4_method_3_code
def y_SU_differenceOfAbsolutes : MethodName := ⟨"BigDesk$Sums", "differenceOfAbsolutes", "(LBigDesk$Whole;LBigDesk$Whole;LBigDesk$Whole;)V"⟩
abbrev b_SU_differenceOfAbsolutes : ByteArray := prog_4_method_5_code
def y_BD_keepMade : MethodName := ⟨"BigDesk", "keepMade", "(LBigDesk$Whole;)V"⟩
abbrev b_BD_keepMade : ByteArray := prog_1_method_26_code
def y_WH_bits : MethodName := ⟨"BigDesk$Whole", "bits", "()I"⟩
abbrev b_WH_bits : ByteArray := prog_6_method_10_code
def y_WH_bitsOf : MethodName := ⟨"BigDesk$Whole", "bitsOf", "(J)I"⟩
abbrev b_WH_bitsOf : ByteArray := prog_6_method_19_code
def y_LW_subtract : MethodName := ⟨"BigDeskLaw", "subtract", "(LBigDesk;III)I"⟩
abbrev b_LW_subtract : ByteArray := method_6_code
def y_BD_subtract : MethodName := ⟨"BigDesk", "subtract", "(III)V"⟩
abbrev b_BD_subtract : ByteArray := prog_1_method_5_code
def y_LW_multiply : MethodName := ⟨"BigDeskLaw", "multiply", "(LBigDesk;III)I"⟩
abbrev b_LW_multiply : ByteArray := method_7_code
def y_BD_multiply : MethodName := ⟨"BigDesk", "multiply", "(III)V"⟩
abbrev b_BD_multiply : ByteArray := prog_1_method_6_code
def y_BD_keepProduct : MethodName := ⟨"BigDesk", "keepProduct", "(LBigDesk$Whole;LBigDesk$Whole;LBigDesk$Whole;)V"⟩
abbrev b_BD_keepProduct : ByteArray := prog_1_method_25_code
def y_SU_product : MethodName := ⟨"BigDesk$Sums", "product", "(LBigDesk$Whole;LBigDesk$Whole;LBigDesk$Whole;)Z"⟩
abbrev b_SU_product : ByteArray := prog_4_method_6_code
def y_SU_addRow : MethodName := ⟨"BigDesk$Sums", "addRow", "([JIJLBigDesk$Whole;)V"⟩
abbrev b_SU_addRow : ByteArray := prog_4_method_7_code
def y_LW_times : MethodName := ⟨"BigDeskLaw", "times", "(LBigDesk;IIJ)I"⟩
abbrev b_LW_times : ByteArray := method_8_code
def y_BD_times : MethodName := ⟨"BigDesk", "times", "(IIJ)V"⟩
abbrev b_BD_times : ByteArray := prog_1_method_7_code
def y_LW_shift : MethodName := ⟨"BigDeskLaw", "shift", "(LBigDesk;III)I"⟩
abbrev b_LW_shift : ByteArray := method_9_code
def y_BD_shift : MethodName := ⟨"BigDesk", "shift", "(III)V"⟩
abbrev b_BD_shift : ByteArray := prog_1_method_8_code
def y_BD_requireShift : MethodName := ⟨"BigDesk", "requireShift", "(I)V"⟩
abbrev b_BD_requireShift : ByteArray := prog_1_method_24_code
def y_WH_becomeShiftedUp : MethodName := ⟨"BigDesk$Whole", "becomeShiftedUp", "(LBigDesk$Whole;I)V"⟩
abbrev b_WH_becomeShiftedUp : ByteArray := prog_6_method_5_code
def y_WH_at : MethodName := ⟨"BigDesk$Whole", "at", "(I)J"⟩
abbrev b_WH_at : ByteArray := prog_6_method_9_code
def y_LW_half : MethodName := ⟨"BigDeskLaw", "half", "(LBigDesk;III)I"⟩
abbrev b_LW_half : ByteArray := method_10_code
def y_BD_half : MethodName := ⟨"BigDesk", "half", "(III)V"⟩
abbrev b_BD_half : ByteArray := prog_1_method_9_code
def y_WH_becomeShiftedDown : MethodName := ⟨"BigDesk$Whole", "becomeShiftedDown", "(LBigDesk$Whole;I)V"⟩
abbrev b_WH_becomeShiftedDown : ByteArray := prog_6_method_6_code
def y_WH_endingZeros : MethodName := ⟨"BigDesk$Whole", "endingZeros", "()I"⟩
abbrev b_WH_endingZeros : ByteArray := prog_6_method_11_code
def y_JL_bitCount : MethodName := ⟨"java/lang/Long", "bitCount", "(J)I"⟩
abbrev b_JL_bitCount : ByteArray := prog_13_method_50_code
def y_WH_addOne : MethodName := ⟨"BigDesk$Whole", "addOne", "()V"⟩
abbrev b_WH_addOne : ByteArray := prog_6_method_16_code
def y_LW_divide : MethodName := ⟨"BigDeskLaw", "divide", "(LBigDesk;IIII)I"⟩
abbrev b_LW_divide : ByteArray := method_11_code
def y_BD_divide : MethodName := ⟨"BigDesk", "divide", "(IIII)V"⟩
abbrev b_BD_divide : ByteArray := prog_1_method_10_code
def y_DV_downwards : MethodName := ⟨"BigDesk$Division", "downwards", "(LBigDesk$Whole;LBigDesk$Whole;)V"⟩
abbrev b_DV_downwards : ByteArray := prog_3_method_2_code
def y_DV_ofAbsolutes : MethodName := ⟨"BigDesk$Division", "ofAbsolutes", "(LBigDesk$Whole;LBigDesk$Whole;)V"⟩
abbrev b_DV_ofAbsolutes : ByteArray := prog_3_method_3_code
def y_WH_clear : MethodName := ⟨"BigDesk$Whole", "clear", "()V"⟩
abbrev b_WH_clear : ByteArray := prog_6_method_2_code
def y_DV_nextLimb : MethodName := ⟨"BigDesk$Division", "nextLimb", "(I)J"⟩
abbrev b_DV_nextLimb : ByteArray := prog_3_method_4_code
def y_DV_guessLimb : MethodName := ⟨"BigDesk$Division", "guessLimb", "(I)J"⟩
abbrev b_DV_guessLimb : ByteArray := prog_3_method_5_code
def y_DV_unsignedQuotient : MethodName := ⟨"BigDesk$Division", "unsignedQuotient", "(JJ)J"⟩
abbrev b_DV_unsignedQuotient : ByteArray := prog_3_method_6_code
def y_DV_takeAway : MethodName := ⟨"BigDesk$Division", "takeAway", "(IJ)Z"⟩
abbrev b_DV_takeAway : ByteArray := prog_3_method_7_code
def y_DV_putBack : MethodName := ⟨"BigDesk$Division", "putBack", "(I)V"⟩
abbrev b_DV_putBack : ByteArray := prog_3_method_8_code
def y_LW_gcd : MethodName := ⟨"BigDeskLaw", "gcd", "(LBigDesk;III)I"⟩
abbrev b_LW_gcd : ByteArray := method_12_code
def y_BD_gcd : MethodName := ⟨"BigDesk", "gcd", "(III)V"⟩
abbrev b_BD_gcd : ByteArray := prog_1_method_11_code
def y_CD_greatest : MethodName := ⟨"BigDesk$CommonDivisor", "greatest", "(LBigDesk$Whole;LBigDesk$Whole;LBigDesk$Division;)LBigDesk$Whole;"⟩
abbrev b_CD_greatest : ByteArray := prog_2_method_2_code
def y_CD_exchange : MethodName := ⟨"BigDesk$CommonDivisor", "exchange", "()V"⟩
abbrev b_CD_exchange : ByteArray := prog_2_method_3_code
def y_CD_foretell : MethodName := ⟨"BigDesk$CommonDivisor", "foretell", "()Z"⟩
abbrev b_CD_foretell : ByteArray := prog_2_method_4_code
def y_WH_longFrom : MethodName := ⟨"BigDesk$Whole", "longFrom", "(I)J"⟩
abbrev b_WH_longFrom : ByteArray := prog_6_method_15_code
def y_JM_abs : MethodName := ⟨"java/lang/Math", "abs", "(J)J"⟩
abbrev b_JM_abs : ByteArray := prog_14_method_61_code
def y_CD_combine : MethodName := ⟨"BigDesk$CommonDivisor", "combine", "()V"⟩
abbrev b_CD_combine : ByteArray := prog_2_method_5_code
def y_LW_negate : MethodName := ⟨"BigDeskLaw", "negate", "(LBigDesk;II)I"⟩
abbrev b_LW_negate : ByteArray := method_13_code
def y_BD_negate : MethodName := ⟨"BigDesk", "negate", "(II)V"⟩
abbrev b_BD_negate : ByteArray := prog_1_method_12_code
def y_LW_compare : MethodName := ⟨"BigDeskLaw", "compare", "(LBigDesk;II[J)I"⟩
abbrev b_LW_compare : ByteArray := method_14_code
def y_BD_compare : MethodName := ⟨"BigDesk", "compare", "(II)I"⟩
abbrev b_BD_compare : ByteArray := prog_1_method_13_code
def y_LW_rest : MethodName := ⟨"BigDeskLaw", "rest", "(LBigDesk;IJ[J)I"⟩
abbrev b_LW_rest : ByteArray := method_15_code
def y_BD_rest : MethodName := ⟨"BigDesk", "rest", "(IJ)J"⟩
abbrev b_BD_rest : ByteArray := prog_1_method_14_code
def y_WH_asLong : MethodName := ⟨"BigDesk$Whole", "asLong", "()J"⟩
abbrev b_WH_asLong : ByteArray := prog_6_method_13_code
def y_WH_lowestLong : MethodName := ⟨"BigDesk$Whole", "lowestLong", "()J"⟩
abbrev b_WH_lowestLong : ByteArray := prog_6_method_14_code
def y_LW_value : MethodName := ⟨"BigDeskLaw", "value", "(LBigDesk;I[J)I"⟩
abbrev b_LW_value : ByteArray := method_16_code
def y_BD_value : MethodName := ⟨"BigDesk", "value", "(I)J"⟩
abbrev b_BD_value : ByteArray := prog_1_method_15_code
def y_WH_isLong : MethodName := ⟨"BigDesk$Whole", "isLong", "()Z"⟩
abbrev b_WH_isLong : ByteArray := prog_6_method_12_code
def y_LW_limb : MethodName := ⟨"BigDeskLaw", "limb", "(LBigDesk;II[J)I"⟩
abbrev b_LW_limb : ByteArray := method_17_code
def y_BD_limb : MethodName := ⟨"BigDesk", "limb", "(II)J"⟩
abbrev b_BD_limb : ByteArray := prog_1_method_16_code
def y_LW_look : MethodName := ⟨"BigDeskLaw", "look", "(LBigDesk;II[J)I"⟩
abbrev b_LW_look : ByteArray := method_18_code
def y_BD_look : MethodName := ⟨"BigDesk", "look", "(II)I"⟩
abbrev b_BD_look : ByteArray := prog_1_method_17_code
def y_LW_feed : MethodName := ⟨"BigDeskLaw", "feed", "(LBigDesk;IJ[J)I"⟩
abbrev b_LW_feed : ByteArray := method_19_code
def y_BD_feed : MethodName := ⟨"BigDesk", "feed", "(IJ)I"⟩
abbrev b_BD_feed : ByteArray := prog_1_method_18_code
def y_LW_read : MethodName := ⟨"BigDeskLaw", "read", "(LBigDesk;I[J)I"⟩
abbrev b_LW_read : ByteArray := method_20_code
def y_BD_read : MethodName := ⟨"BigDesk", "read", "(I)Z"⟩
abbrev b_BD_read : ByteArray := prog_1_method_19_code
def y_TX_numberOf : MethodName := ⟨"BigDesk$Texts", "numberOf", "(LBigDesk$Whole;[BI)Z"⟩
abbrev b_TX_numberOf : ByteArray := prog_5_method_3_code
def y_TX_isText : MethodName := ⟨"BigDesk$Texts", "isText", "([BI)Z"⟩
abbrev b_TX_isText : ByteArray := prog_5_method_2_code
def y_WH_appendChunk : MethodName := ⟨"BigDesk$Whole", "appendChunk", "(J)V"⟩
abbrev b_WH_appendChunk : ByteArray := prog_6_method_17_code
def y_LW_write : MethodName := ⟨"BigDeskLaw", "write", "(LBigDesk;I[J)I"⟩
abbrev b_LW_write : ByteArray := method_21_code
def y_BD_write : MethodName := ⟨"BigDesk", "write", "(I)I"⟩
abbrev b_BD_write : ByteArray := prog_1_method_20_code
def y_TX_textOf : MethodName := ⟨"BigDesk$Texts", "textOf", "(LBigDesk$Whole;[B)I"⟩
abbrev b_TX_textOf : ByteArray := prog_5_method_4_code
def y_TX_layChunk : MethodName := ⟨"BigDesk$Texts", "layChunk", "(LBigDesk$Whole;[BI)I"⟩
abbrev b_TX_layChunk : ByteArray := prog_5_method_5_code
def y_WH_takeChunk : MethodName := ⟨"BigDesk$Whole", "takeChunk", "()J"⟩
abbrev b_WH_takeChunk : ByteArray := prog_6_method_18_code
def y_TX_layByte : MethodName := ⟨"BigDesk$Texts", "layByte", "(I[BI)I"⟩
abbrev b_TX_layByte : ByteArray := prog_5_method_6_code
def y_LW_out : MethodName := ⟨"BigDeskLaw", "out", "(LBigDesk;I[J)I"⟩
abbrev b_LW_out : ByteArray := method_22_code
def y_BD_out : MethodName := ⟨"BigDesk", "out", "(I)J"⟩
abbrev b_BD_out : ByteArray := prog_1_method_21_code
def y_LW_text : MethodName := ⟨"BigDeskLaw", "text", "(LBigDesk;I[J)I"⟩
abbrev b_LW_text : ByteArray := method_23_code
def y_BD_text : MethodName := ⟨"BigDesk", "text", "(I)I"⟩
abbrev b_BD_text : ByteArray := prog_1_method_22_code
def y_MO_init : MethodName := ⟨"BigDeskModel", "<init>", "()V"⟩
abbrev b_MO_init : ByteArray := prog_8_method_1_code
def y_MO_setRow : MethodName := ⟨"BigDeskModel", "setRow", "(IJ)V"⟩
abbrev b_MO_setRow : ByteArray := prog_8_method_6_code
def y_MO_scale : MethodName := ⟨"BigDeskModel", "scale", "(II)V"⟩
abbrev b_MO_scale : ByteArray := prog_8_method_14_code
def y_MO_at : MethodName := ⟨"BigDeskModel", "at", "(II)I"⟩
abbrev b_MO_at : ByteArray := prog_8_method_8_code
def y_MO_thrown : MethodName := ⟨"BigDeskModel", "thrown", "()I"⟩
abbrev b_MO_thrown : ByteArray := prog_8_method_2_code
def y_MO_set : MethodName := ⟨"BigDeskModel", "set", "(IJ)V"⟩
abbrev b_MO_set : ByteArray := prog_8_method_21_code
def y_MO_isNone : MethodName := ⟨"BigDeskModel", "isNone", "(I)Z"⟩
abbrev b_MO_isNone : ByteArray := prog_8_method_5_code
def y_MO_fails : MethodName := ⟨"BigDeskModel", "fails", "(ZI)Z"⟩
abbrev b_MO_fails : ByteArray := prog_8_method_3_code
def y_MO_copy : MethodName := ⟨"BigDeskModel", "copy", "(II)V"⟩
abbrev b_MO_copy : ByteArray := prog_8_method_22_code
def y_MO_copyRow : MethodName := ⟨"BigDeskModel", "copyRow", "(II)V"⟩
abbrev b_MO_copyRow : ByteArray := prog_8_method_7_code
def y_MO_add : MethodName := ⟨"BigDeskModel", "add", "(III)V"⟩
abbrev b_MO_add : ByteArray := prog_8_method_23_code
def y_MO_sum : MethodName := ⟨"BigDeskModel", "sum", "(III)V"⟩
abbrev b_MO_sum : ByteArray := prog_8_method_12_code
def y_MO_joins : MethodName := ⟨"BigDeskModel", "joins", "(IIII)V"⟩
abbrev b_MO_joins : ByteArray := prog_8_method_11_code
def y_MO_trim : MethodName := ⟨"BigDeskModel", "trim", "(II)V"⟩
abbrev b_MO_trim : ByteArray := prog_8_method_9_code
def y_MO_against : MethodName := ⟨"BigDeskModel", "against", "(II)I"⟩
abbrev b_MO_against : ByteArray := prog_8_method_10_code
def y_MO_becomes : MethodName := ⟨"BigDeskModel", "becomes", "(I)Z"⟩
abbrev b_MO_becomes : ByteArray := prog_8_method_19_code
def y_MO_subtract : MethodName := ⟨"BigDeskModel", "subtract", "(III)V"⟩
abbrev b_MO_subtract : ByteArray := prog_8_method_24_code
def y_MO_multiply : MethodName := ⟨"BigDeskModel", "multiply", "(III)V"⟩
abbrev b_MO_multiply : ByteArray := prog_8_method_25_code
def y_MO_product : MethodName := ⟨"BigDeskModel", "product", "(II)V"⟩
abbrev b_MO_product : ByteArray := prog_8_method_13_code
def y_MO_times : MethodName := ⟨"BigDeskModel", "times", "(IIJ)V"⟩
abbrev b_MO_times : ByteArray := prog_8_method_26_code
def y_MO_shift : MethodName := ⟨"BigDeskModel", "shift", "(III)V"⟩
abbrev b_MO_shift : ByteArray := prog_8_method_27_code
def y_MO_in : MethodName := ⟨"BigDeskModel", "in", "(JJJ)Z"⟩
abbrev b_MO_in : ByteArray := prog_8_method_4_code
def y_MO_half : MethodName := ⟨"BigDeskModel", "half", "(III)V"⟩
abbrev b_MO_half : ByteArray := prog_8_method_28_code
def y_MO_parts : MethodName := ⟨"BigDeskModel", "parts", "(II)I"⟩
abbrev b_MO_parts : ByteArray := prog_8_method_15_code
def y_MO_divide : MethodName := ⟨"BigDeskModel", "divide", "(IIII)V"⟩
abbrev b_MO_divide : ByteArray := prog_8_method_29_code
def y_MO_quotient : MethodName := ⟨"BigDeskModel", "quotient", "(II)V"⟩
abbrev b_MO_quotient : ByteArray := prog_8_method_16_code
def y_MO_guess : MethodName := ⟨"BigDeskModel", "guess", "(I)I"⟩
abbrev b_MO_guess : ByteArray := prog_8_method_17_code
def y_MO_lessens : MethodName := ⟨"BigDeskModel", "lessens", "(II)V"⟩
abbrev b_MO_lessens : ByteArray := prog_8_method_18_code
def y_MO_gcd : MethodName := ⟨"BigDeskModel", "gcd", "(III)V"⟩
abbrev b_MO_gcd : ByteArray := prog_8_method_30_code
def y_MO_negate : MethodName := ⟨"BigDeskModel", "negate", "(II)V"⟩
abbrev b_MO_negate : ByteArray := prog_8_method_31_code
def y_MO_compare : MethodName := ⟨"BigDeskModel", "compare", "(II)I"⟩
abbrev b_MO_compare : ByteArray := prog_8_method_32_code
def y_MO_rest : MethodName := ⟨"BigDeskModel", "rest", "(IJ)J"⟩
abbrev b_MO_rest : ByteArray := prog_8_method_33_code
def y_MO_twice : MethodName := ⟨"BigDeskModel", "twice", "(JJJ)J"⟩
abbrev b_MO_twice : ByteArray := prog_8_method_34_code
def y_MO_value : MethodName := ⟨"BigDeskModel", "value", "(I)J"⟩
abbrev b_MO_value : ByteArray := prog_8_method_37_code
def y_MO_isLong : MethodName := ⟨"BigDeskModel", "isLong", "(I)Z"⟩
abbrev b_MO_isLong : ByteArray := prog_8_method_35_code
def y_MO_longOf : MethodName := ⟨"BigDeskModel", "longOf", "(I)J"⟩
abbrev b_MO_longOf : ByteArray := prog_8_method_36_code
def y_MO_limb : MethodName := ⟨"BigDeskModel", "limb", "(II)J"⟩
abbrev b_MO_limb : ByteArray := prog_8_method_38_code
def y_MO_look : MethodName := ⟨"BigDeskModel", "look", "(II)I"⟩
abbrev b_MO_look : ByteArray := prog_8_method_39_code
def y_MO_bits : MethodName := ⟨"BigDeskModel", "bits", "(I)I"⟩
abbrev b_MO_bits : ByteArray := prog_8_method_20_code
def y_MO_feed : MethodName := ⟨"BigDeskModel", "feed", "(IJ)I"⟩
abbrev b_MO_feed : ByteArray := prog_8_method_40_code
def y_MO_read : MethodName := ⟨"BigDeskModel", "read", "(I)Z"⟩
abbrev b_MO_read : ByteArray := prog_8_method_42_code
def y_MO_reads : MethodName := ⟨"BigDeskModel", "reads", "()Z"⟩
abbrev b_MO_reads : ByteArray := prog_8_method_41_code
def y_MO_write : MethodName := ⟨"BigDeskModel", "write", "(I)I"⟩
abbrev b_MO_write : ByteArray := prog_8_method_43_code
def y_MO_say : MethodName := ⟨"BigDeskModel", "say", "(I)V"⟩
abbrev b_MO_say : ByteArray := prog_8_method_44_code
def y_MO_out : MethodName := ⟨"BigDeskModel", "out", "(I)J"⟩
abbrev b_MO_out : ByteArray := prog_8_method_45_code
def y_MO_text : MethodName := ⟨"BigDeskModel", "text", "(I)I"⟩
abbrev b_MO_text : ByteArray := prog_8_method_46_code
theorem wd_s0 : Cond.selects "BigDesk" y_BD_register y_BD_register ∈ zx_T := zx_in 0 rfl rfl
theorem wd_s2 : Cond.selects "BigDesk" y_BD_keepMade y_BD_keepMade ∈ zx_T := zx_in 2 rfl rfl
theorem wd_s3 : Cond.selects "BigDesk" y_BD_keepProduct y_BD_keepProduct ∈ zx_T := zx_in 3 rfl rfl
theorem wd_s4 : Cond.selects "BigDesk$Division" y_DV_nextLimb y_DV_nextLimb ∈ zx_T := zx_in 4 rfl rfl
theorem wd_s5 : Cond.selects "BigDesk$Division" y_DV_guessLimb y_DV_guessLimb ∈ zx_T := zx_in 5 rfl rfl
theorem wd_s6 : Cond.selects "BigDesk$Division" y_DV_takeAway y_DV_takeAway ∈ zx_T := zx_in 6 rfl rfl
theorem wd_s7 : Cond.selects "BigDesk$Division" y_DV_putBack y_DV_putBack ∈ zx_T := zx_in 7 rfl rfl
theorem wd_s8 : Cond.selects "BigDesk$CommonDivisor" y_CD_exchange y_CD_exchange ∈ zx_T := zx_in 8 rfl rfl
theorem wd_s9 : Cond.selects "BigDesk$CommonDivisor" y_CD_foretell y_CD_foretell ∈ zx_T := zx_in 9 rfl rfl
theorem wd_s10 : Cond.selects "BigDesk$CommonDivisor" y_CD_combine y_CD_combine ∈ zx_T := zx_in 10 rfl rfl
theorem wd_s11 : Cond.selects "BigDesk$Whole" y_WH_lowestLong y_WH_lowestLong ∈ zx_T := zx_in 11 rfl rfl
theorem wd_s12 : Cond.selects "BigDeskModel" y_MO_setRow y_MO_setRow ∈ zx_T := zx_in 12 rfl rfl
theorem wd_s13 : Cond.selects "BigDeskModel" y_MO_scale y_MO_scale ∈ zx_T := zx_in 13 rfl rfl
theorem wd_s14 : Cond.selects "BigDeskModel" y_MO_at y_MO_at ∈ zx_T := zx_in 14 rfl rfl
theorem wd_s15 : Cond.selects "BigDeskModel" y_MO_fails y_MO_fails ∈ zx_T := zx_in 15 rfl rfl
theorem wd_s16 : Cond.selects "BigDeskModel" y_MO_copyRow y_MO_copyRow ∈ zx_T := zx_in 16 rfl rfl
theorem wd_s17 : Cond.selects "BigDeskModel" y_MO_sum y_MO_sum ∈ zx_T := zx_in 17 rfl rfl
theorem wd_s18 : Cond.selects "BigDeskModel" y_MO_joins y_MO_joins ∈ zx_T := zx_in 18 rfl rfl
theorem wd_s19 : Cond.selects "BigDeskModel" y_MO_trim y_MO_trim ∈ zx_T := zx_in 19 rfl rfl
theorem wd_s20 : Cond.selects "BigDeskModel" y_MO_against y_MO_against ∈ zx_T := zx_in 20 rfl rfl
theorem wd_s21 : Cond.selects "BigDeskModel" y_MO_becomes y_MO_becomes ∈ zx_T := zx_in 21 rfl rfl
theorem wd_s22 : Cond.selects "BigDeskModel" y_MO_product y_MO_product ∈ zx_T := zx_in 22 rfl rfl
theorem wd_s23 : Cond.selects "BigDeskModel" y_MO_parts y_MO_parts ∈ zx_T := zx_in 23 rfl rfl
theorem wd_s24 : Cond.selects "BigDeskModel" y_MO_quotient y_MO_quotient ∈ zx_T := zx_in 24 rfl rfl
theorem wd_s25 : Cond.selects "BigDeskModel" y_MO_guess y_MO_guess ∈ zx_T := zx_in 25 rfl rfl
theorem wd_s26 : Cond.selects "BigDeskModel" y_MO_lessens y_MO_lessens ∈ zx_T := zx_in 26 rfl rfl
theorem wd_s27 : Cond.selects "BigDeskModel" y_MO_isLong y_MO_isLong ∈ zx_T := zx_in 27 rfl rfl
theorem wd_s28 : Cond.selects "BigDeskModel" y_MO_longOf y_MO_longOf ∈ zx_T := zx_in 28 rfl rfl
theorem wd_s29 : Cond.selects "BigDeskModel" y_MO_bits y_MO_bits ∈ zx_T := zx_in 29 rfl rfl
theorem wd_s30 : Cond.selects "BigDeskModel" y_MO_reads y_MO_reads ∈ zx_T := zx_in 30 rfl rfl
theorem wd_s31 : Cond.selects "BigDeskModel" y_MO_say y_MO_say ∈ zx_T := zx_in 31 rfl rfl
theorem wd_0 : (Cond.initialized "BigDeskLaw") ∈ zx_T := zx_in 32 rfl rfl
theorem wd_1 : (Cond.initialized "BigDesk") ∈ zx_T := zx_in 33 rfl rfl
theorem wd_2 : (Cond.initialized "BigDesk$Whole") ∈ zx_T := zx_in 34 rfl rfl
theorem wd_3 : (Cond.initialized "BigDesk$Division") ∈ zx_T := zx_in 35 rfl rfl
theorem wd_4 : (Cond.initialized "BigDesk$CommonDivisor") ∈ zx_T := zx_in 36 rfl rfl
theorem wd_5 : (Cond.initialized "BigDeskModel") ∈ zx_T := zx_in 37 rfl rfl
theorem wd_6 : (Cond.initialized "java/lang/Throwable") ∈ zx_T := zx_in 38 rfl rfl
theorem wd_7 : (Cond.initialized "java/lang/Exception") ∈ zx_T := zx_in 39 rfl rfl
theorem wd_8 : (Cond.initialized "java/lang/RuntimeException") ∈ zx_T := zx_in 40 rfl rfl
theorem wd_9 : (Cond.initialized "java/lang/IllegalArgumentException") ∈ zx_T := zx_in 41 rfl rfl
theorem wd_10 : (Cond.initialized "java/lang/System") ∈ zx_T := zx_in 42 rfl rfl
theorem wd_11 : (Cond.initialized "BigDesk$Sums") ∈ zx_T := zx_in 43 rfl rfl
theorem wd_12 : (Cond.initialized "java/lang/Math") ∈ zx_T := zx_in 44 rfl rfl
theorem wd_13 : (Cond.initialized "java/lang/IllegalStateException") ∈ zx_T := zx_in 45 rfl rfl
theorem wd_14 : (Cond.initialized "java/lang/Long") ∈ zx_T := zx_in 46 rfl rfl
theorem wd_15 : (Cond.initialized "java/lang/ArithmeticException") ∈ zx_T := zx_in 47 rfl rfl
theorem wd_16 : (Cond.initialized "BigDesk$Texts") ∈ zx_T := zx_in 48 rfl rfl
theorem wd_17 : (Cond.initialized "java/util/NoSuchElementException") ∈ zx_T := zx_in 49 rfl rfl
theorem wd_18 : (Cond.classLink "BigDeskLaw" (8 : Nat) "BigDesk") ∈ zx_T := zx_in 50 rfl rfl
theorem wd_19 : (Cond.instantiable "BigDesk" (9 : Nat)) ∈ zx_T := zx_in 51 rfl rfl
theorem wd_20 : (Cond.methodLink "BigDeskLaw" (92 : Nat) y_BD_init) ∈ zx_T := zx_in 52 rfl rfl
theorem wd_21 : (Cond.instanceMethod y_BD_init) ∈ zx_T := zx_in 53 rfl rfl
theorem wd_22 : (Cond.code y_BD_init prog_1_method_1_code (2 : Nat) (Option.none : Option FieldType)) ∈ zx_T := zx_in 54 rfl rfl
theorem wd_23 : (Cond.methodLink "BigDesk" (3 : Nat) (⟨"java/lang/Object", "<init>", "()V"⟩ : MethodName)) ∈ zx_T := zx_in 55 rfl rfl
theorem wd_24 : (Cond.instanceMethod (⟨"java/lang/Object", "<init>", "()V"⟩ : MethodName)) ∈ zx_T := zx_in 56 rfl rfl
theorem wd_25 : (Cond.code (⟨"java/lang/Object", "<init>", "()V"⟩ : MethodName) object_method_1_code (1 : Nat) (Option.none : Option FieldType)) ∈ zx_T := zx_in 57 rfl rfl
theorem wd_26 : (Cond.classLink "BigDesk" (9 : Nat) "BigDesk$Whole") ∈ zx_T := zx_in 58 rfl rfl
theorem wd_28 : (Cond.instantiable "BigDesk$Whole" (3 : Nat)) ∈ zx_T := zx_in 60 rfl rfl
theorem wd_30 : (Cond.instanceMethod y_WH_init) ∈ zx_T := zx_in 62 rfl rfl
theorem wd_31 : (Cond.code y_WH_init prog_6_method_1_code (1 : Nat) (Option.none : Option FieldType)) ∈ zx_T := zx_in 63 rfl rfl
theorem wd_32 : (Cond.methodLink "BigDesk$Whole" (3 : Nat) (⟨"java/lang/Object", "<init>", "()V"⟩ : MethodName)) ∈ zx_T := zx_in 64 rfl rfl
theorem wd_33 : (Cond.fieldLink "BigDesk$Whole" (9 : Nat) "BigDesk$Whole" "limbs" "[J") ∈ zx_T := zx_in 65 rfl rfl
theorem wd_34 : (Cond.fieldLink "BigDesk$Division" (52 : Nat) "BigDesk$Whole" "limbs" "[J") ∈ zx_T := zx_in 66 rfl rfl
theorem wd_35 : (Cond.fieldLink "BigDesk$Sums" (36 : Nat) "BigDesk$Whole" "limbs" "[J") ∈ zx_T := zx_in 67 rfl rfl
theorem wd_36 : (Cond.fieldLink "BigDesk$CommonDivisor" (91 : Nat) "BigDesk$Whole" "limbs" "[J") ∈ zx_T := zx_in 68 rfl rfl
theorem wd_37 : (Cond.fieldLink "BigDesk$Whole" (15 : Nat) "BigDesk$Whole" "size" "I") ∈ zx_T := zx_in 69 rfl rfl
theorem wd_38 : (Cond.fieldLink "BigDesk$Division" (32 : Nat) "BigDesk$Whole" "size" "I") ∈ zx_T := zx_in 70 rfl rfl
theorem wd_39 : (Cond.fieldLink "BigDesk$CommonDivisor" (38 : Nat) "BigDesk$Whole" "size" "I") ∈ zx_T := zx_in 71 rfl rfl
theorem wd_40 : (Cond.fieldLink "BigDesk$Sums" (32 : Nat) "BigDesk$Whole" "size" "I") ∈ zx_T := zx_in 72 rfl rfl
theorem wd_41 : (Cond.fieldLink "BigDesk$Texts" (36 : Nat) "BigDesk$Whole" "size" "I") ∈ zx_T := zx_in 73 rfl rfl
theorem wd_42 : (Cond.fieldLink "BigDesk" (117 : Nat) "BigDesk$Whole" "size" "I") ∈ zx_T := zx_in 74 rfl rfl
theorem wd_43 : (Cond.fieldLink "BigDesk$Whole" (19 : Nat) "BigDesk$Whole" "negative" "Z") ∈ zx_T := zx_in 75 rfl rfl
theorem wd_44 : (Cond.fieldLink "BigDesk$Sums" (9 : Nat) "BigDesk$Whole" "negative" "Z") ∈ zx_T := zx_in 76 rfl rfl
theorem wd_45 : (Cond.fieldLink "BigDesk$Division" (28 : Nat) "BigDesk$Whole" "negative" "Z") ∈ zx_T := zx_in 77 rfl rfl
theorem wd_46 : (Cond.fieldLink "BigDesk$Texts" (32 : Nat) "BigDesk$Whole" "negative" "Z") ∈ zx_T := zx_in 78 rfl rfl
theorem wd_47 : (Cond.fieldLink "BigDesk" (95 : Nat) "BigDesk$Whole" "negative" "Z") ∈ zx_T := zx_in 79 rfl rfl
theorem wd_48 : (Cond.laysFinal "BigDesk$Whole" "BigDesk$Whole" "limbs" "[J") ∈ zx_T := zx_in 80 rfl rfl
theorem wd_49 : (Cond.soleField "BigDesk$Whole" "limbs") ∈ zx_T := zx_in 81 rfl rfl
theorem wd_50 : (Cond.lays "BigDesk$Whole" "BigDesk$Whole" "size" "I") ∈ zx_T := zx_in 82 rfl rfl
theorem wd_51 : (Cond.soleField "BigDesk$Whole" "size") ∈ zx_T := zx_in 83 rfl rfl
theorem wd_52 : (Cond.lays "BigDesk$Whole" "BigDesk$Whole" "negative" "Z") ∈ zx_T := zx_in 84 rfl rfl
theorem wd_53 : (Cond.soleField "BigDesk$Whole" "negative") ∈ zx_T := zx_in 85 rfl rfl
theorem wd_54 : (Cond.superclass "BigDesk$Whole" "java/lang/Object") ∈ zx_T := zx_in 86 rfl rfl
theorem wd_55 : (Cond.arrayClass FieldType.long) ∈ zx_T := zx_in 87 rfl rfl
theorem wd_56 : (Cond.classLink "BigDesk" (23 : Nat) "BigDesk$Division") ∈ zx_T := zx_in 88 rfl rfl
theorem wd_57 : (Cond.instantiable "BigDesk$Division" (3 : Nat)) ∈ zx_T := zx_in 89 rfl rfl
theorem wd_59 : (Cond.instanceMethod y_DV_init) ∈ zx_T := zx_in 91 rfl rfl
theorem wd_60 : (Cond.code y_DV_init prog_3_method_1_code (1 : Nat) (Option.none : Option FieldType)) ∈ zx_T := zx_in 92 rfl rfl
theorem wd_61 : (Cond.methodLink "BigDesk$Division" (3 : Nat) (⟨"java/lang/Object", "<init>", "()V"⟩ : MethodName)) ∈ zx_T := zx_in 93 rfl rfl
theorem wd_62 : (Cond.classLink "BigDesk$Division" (9 : Nat) "BigDesk$Whole") ∈ zx_T := zx_in 94 rfl rfl
theorem wd_64 : (Cond.fieldLink "BigDesk$Division" (12 : Nat) "BigDesk$Division" "quotient" "LBigDesk$Whole;") ∈ zx_T := zx_in 96 rfl rfl
theorem wd_65 : (Cond.fieldLink "BigDesk" (129 : Nat) "BigDesk$Division" "quotient" "LBigDesk$Whole;") ∈ zx_T := zx_in 97 rfl rfl
theorem wd_66 : (Cond.fieldLink "BigDesk$Division" (18 : Nat) "BigDesk$Division" "remainder" "LBigDesk$Whole;") ∈ zx_T := zx_in 98 rfl rfl
theorem wd_67 : (Cond.fieldLink "BigDesk$CommonDivisor" (55 : Nat) "BigDesk$Division" "remainder" "LBigDesk$Whole;") ∈ zx_T := zx_in 99 rfl rfl
theorem wd_68 : (Cond.fieldLink "BigDesk" (132 : Nat) "BigDesk$Division" "remainder" "LBigDesk$Whole;") ∈ zx_T := zx_in 100 rfl rfl
theorem wd_69 : (Cond.fieldLink "BigDesk$Division" (21 : Nat) "BigDesk$Division" "scaled" "LBigDesk$Whole;") ∈ zx_T := zx_in 101 rfl rfl
theorem wd_70 : (Cond.laysFinal "BigDesk$Division" "BigDesk$Division" "quotient" "LBigDesk$Whole;") ∈ zx_T := zx_in 102 rfl rfl
theorem wd_71 : (Cond.soleField "BigDesk$Division" "quotient") ∈ zx_T := zx_in 103 rfl rfl
theorem wd_72 : (Cond.laysFinal "BigDesk$Division" "BigDesk$Division" "remainder" "LBigDesk$Whole;") ∈ zx_T := zx_in 104 rfl rfl
theorem wd_73 : (Cond.soleField "BigDesk$Division" "remainder") ∈ zx_T := zx_in 105 rfl rfl
theorem wd_74 : (Cond.laysFinal "BigDesk$Division" "BigDesk$Division" "scaled" "LBigDesk$Whole;") ∈ zx_T := zx_in 106 rfl rfl
theorem wd_75 : (Cond.soleField "BigDesk$Division" "scaled") ∈ zx_T := zx_in 107 rfl rfl
theorem wd_76 : (Cond.superclass "BigDesk$Division" "java/lang/Object") ∈ zx_T := zx_in 108 rfl rfl
theorem wd_77 : (Cond.classLink "BigDesk" (30 : Nat) "BigDesk$CommonDivisor") ∈ zx_T := zx_in 109 rfl rfl
theorem wd_78 : (Cond.instantiable "BigDesk$CommonDivisor" (6 : Nat)) ∈ zx_T := zx_in 110 rfl rfl
theorem wd_80 : (Cond.instanceMethod y_CD_init) ∈ zx_T := zx_in 112 rfl rfl
theorem wd_81 : (Cond.code y_CD_init prog_2_method_1_code (1 : Nat) (Option.none : Option FieldType)) ∈ zx_T := zx_in 113 rfl rfl
theorem wd_82 : (Cond.methodLink "BigDesk$CommonDivisor" (3 : Nat) (⟨"java/lang/Object", "<init>", "()V"⟩ : MethodName)) ∈ zx_T := zx_in 114 rfl rfl
theorem wd_83 : (Cond.classLink "BigDesk$CommonDivisor" (9 : Nat) "BigDesk$Whole") ∈ zx_T := zx_in 115 rfl rfl
theorem wd_85 : (Cond.fieldLink "BigDesk$CommonDivisor" (12 : Nat) "BigDesk$CommonDivisor" "larger" "LBigDesk$Whole;") ∈ zx_T := zx_in 117 rfl rfl
theorem wd_86 : (Cond.fieldLink "BigDesk$CommonDivisor" (18 : Nat) "BigDesk$CommonDivisor" "smaller" "LBigDesk$Whole;") ∈ zx_T := zx_in 118 rfl rfl
theorem wd_87 : (Cond.fieldLink "BigDesk$CommonDivisor" (78 : Nat) "BigDesk$CommonDivisor" "firstLarger" "J") ∈ zx_T := zx_in 119 rfl rfl
theorem wd_88 : (Cond.fieldLink "BigDesk$CommonDivisor" (82 : Nat) "BigDesk$CommonDivisor" "firstSmaller" "J") ∈ zx_T := zx_in 120 rfl rfl
theorem wd_89 : (Cond.fieldLink "BigDesk$CommonDivisor" (85 : Nat) "BigDesk$CommonDivisor" "secondLarger" "J") ∈ zx_T := zx_in 121 rfl rfl
theorem wd_90 : (Cond.fieldLink "BigDesk$CommonDivisor" (88 : Nat) "BigDesk$CommonDivisor" "secondSmaller" "J") ∈ zx_T := zx_in 122 rfl rfl
theorem wd_91 : (Cond.lays "BigDesk$CommonDivisor" "BigDesk$CommonDivisor" "larger" "LBigDesk$Whole;") ∈ zx_T := zx_in 123 rfl rfl
theorem wd_92 : (Cond.soleField "BigDesk$CommonDivisor" "larger") ∈ zx_T := zx_in 124 rfl rfl
theorem wd_93 : (Cond.lays "BigDesk$CommonDivisor" "BigDesk$CommonDivisor" "smaller" "LBigDesk$Whole;") ∈ zx_T := zx_in 125 rfl rfl
theorem wd_94 : (Cond.soleField "BigDesk$CommonDivisor" "smaller") ∈ zx_T := zx_in 126 rfl rfl
theorem wd_95 : (Cond.lays "BigDesk$CommonDivisor" "BigDesk$CommonDivisor" "firstLarger" "J") ∈ zx_T := zx_in 127 rfl rfl
theorem wd_96 : (Cond.soleField "BigDesk$CommonDivisor" "firstLarger") ∈ zx_T := zx_in 128 rfl rfl
theorem wd_97 : (Cond.lays "BigDesk$CommonDivisor" "BigDesk$CommonDivisor" "firstSmaller" "J") ∈ zx_T := zx_in 129 rfl rfl
theorem wd_98 : (Cond.soleField "BigDesk$CommonDivisor" "firstSmaller") ∈ zx_T := zx_in 130 rfl rfl
theorem wd_99 : (Cond.lays "BigDesk$CommonDivisor" "BigDesk$CommonDivisor" "secondLarger" "J") ∈ zx_T := zx_in 131 rfl rfl
theorem wd_100 : (Cond.soleField "BigDesk$CommonDivisor" "secondLarger") ∈ zx_T := zx_in 132 rfl rfl
theorem wd_101 : (Cond.lays "BigDesk$CommonDivisor" "BigDesk$CommonDivisor" "secondSmaller" "J") ∈ zx_T := zx_in 133 rfl rfl
theorem wd_102 : (Cond.soleField "BigDesk$CommonDivisor" "secondSmaller") ∈ zx_T := zx_in 134 rfl rfl
theorem wd_103 : (Cond.superclass "BigDesk$CommonDivisor" "java/lang/Object") ∈ zx_T := zx_in 135 rfl rfl
theorem wd_104 : (Cond.fieldLink "BigDesk" (11 : Nat) "BigDesk" "registers" "[LBigDesk$Whole;") ∈ zx_T := zx_in 136 rfl rfl
theorem wd_105 : (Cond.fieldLink "BigDesk" (16 : Nat) "BigDesk" "made" "LBigDesk$Whole;") ∈ zx_T := zx_in 137 rfl rfl
theorem wd_106 : (Cond.fieldLink "BigDesk" (20 : Nat) "BigDesk" "small" "LBigDesk$Whole;") ∈ zx_T := zx_in 138 rfl rfl
theorem wd_107 : (Cond.fieldLink "BigDesk" (26 : Nat) "BigDesk" "division" "LBigDesk$Division;") ∈ zx_T := zx_in 139 rfl rfl
theorem wd_108 : (Cond.fieldLink "BigDesk" (33 : Nat) "BigDesk" "commonDivisor" "LBigDesk$CommonDivisor;") ∈ zx_T := zx_in 140 rfl rfl
theorem wd_109 : (Cond.fieldLink "BigDesk" (37 : Nat) "BigDesk" "tape" "[B") ∈ zx_T := zx_in 141 rfl rfl
theorem wd_110 : (Cond.fieldLink "BigDesk" (41 : Nat) "BigDesk" "tapeLength" "I") ∈ zx_T := zx_in 142 rfl rfl
theorem wd_111 : (Cond.fieldLink "BigDesk" (45 : Nat) "BigDesk" "written" "[B") ∈ zx_T := zx_in 143 rfl rfl
theorem wd_112 : (Cond.fieldLink "BigDesk" (48 : Nat) "BigDesk" "writtenLength" "I") ∈ zx_T := zx_in 144 rfl rfl
theorem wd_113 : (Cond.laysFinal "BigDesk" "BigDesk" "registers" "[LBigDesk$Whole;") ∈ zx_T := zx_in 145 rfl rfl
theorem wd_114 : (Cond.soleField "BigDesk" "registers") ∈ zx_T := zx_in 146 rfl rfl
theorem wd_115 : (Cond.laysFinal "BigDesk" "BigDesk" "made" "LBigDesk$Whole;") ∈ zx_T := zx_in 147 rfl rfl
theorem wd_116 : (Cond.soleField "BigDesk" "made") ∈ zx_T := zx_in 148 rfl rfl
theorem wd_117 : (Cond.laysFinal "BigDesk" "BigDesk" "small" "LBigDesk$Whole;") ∈ zx_T := zx_in 149 rfl rfl
theorem wd_118 : (Cond.soleField "BigDesk" "small") ∈ zx_T := zx_in 150 rfl rfl
theorem wd_119 : (Cond.laysFinal "BigDesk" "BigDesk" "division" "LBigDesk$Division;") ∈ zx_T := zx_in 151 rfl rfl
theorem wd_120 : (Cond.soleField "BigDesk" "division") ∈ zx_T := zx_in 152 rfl rfl
theorem wd_121 : (Cond.laysFinal "BigDesk" "BigDesk" "commonDivisor" "LBigDesk$CommonDivisor;") ∈ zx_T := zx_in 153 rfl rfl
theorem wd_122 : (Cond.soleField "BigDesk" "commonDivisor") ∈ zx_T := zx_in 154 rfl rfl
theorem wd_123 : (Cond.laysFinal "BigDesk" "BigDesk" "tape" "[B") ∈ zx_T := zx_in 155 rfl rfl
theorem wd_124 : (Cond.soleField "BigDesk" "tape") ∈ zx_T := zx_in 156 rfl rfl
theorem wd_125 : (Cond.lays "BigDesk" "BigDesk" "tapeLength" "I") ∈ zx_T := zx_in 157 rfl rfl
theorem wd_126 : (Cond.soleField "BigDesk" "tapeLength") ∈ zx_T := zx_in 158 rfl rfl
theorem wd_127 : (Cond.laysFinal "BigDesk" "BigDesk" "written" "[B") ∈ zx_T := zx_in 159 rfl rfl
theorem wd_128 : (Cond.soleField "BigDesk" "written") ∈ zx_T := zx_in 160 rfl rfl
theorem wd_129 : (Cond.lays "BigDesk" "BigDesk" "writtenLength" "I") ∈ zx_T := zx_in 161 rfl rfl
theorem wd_130 : (Cond.soleField "BigDesk" "writtenLength") ∈ zx_T := zx_in 162 rfl rfl
theorem wd_131 : (Cond.superclass "BigDesk" "java/lang/Object") ∈ zx_T := zx_in 163 rfl rfl
theorem wd_132 : (Cond.arrayClass FieldType.byte) ∈ zx_T := zx_in 164 rfl rfl
theorem wd_133 : (Cond.methodLink "BigDeskLaw" (98 : Nat) y_LW_set) ∈ zx_T := zx_in 165 rfl rfl
theorem wd_134 : (Cond.static y_LW_set) ∈ zx_T := zx_in 166 rfl rfl
theorem wd_135 : (Cond.codeWith y_LW_set method_3_code (5 : Nat) (Option.some FieldType.int) [((0 : Nat), (6 : Nat), (9 : Nat), (13 : Nat))]) ∈ zx_T := zx_in 167 rfl rfl
theorem wd_136 : (Cond.classLink "BigDeskLaw" (13 : Nat) "java/lang/IllegalArgumentException") ∈ zx_T := zx_in 168 rfl rfl
theorem wd_137 : (Cond.methodLink "BigDeskLaw" (7 : Nat) y_BD_set) ∈ zx_T := zx_in 169 rfl rfl
theorem wd_138 : (Cond.instanceMethod y_BD_set) ∈ zx_T := zx_in 170 rfl rfl
theorem wd_139 : (Cond.selects "BigDesk" y_BD_set y_BD_set) ∈ zx_T := zx_in 171 rfl rfl
theorem wd_140 : (Cond.code y_BD_set prog_1_method_2_code (4 : Nat) (Option.none : Option FieldType)) ∈ zx_T := zx_in 172 rfl rfl
theorem wd_141 : (Cond.methodLink "BigDesk" (51 : Nat) y_BD_register) ∈ zx_T := zx_in 173 rfl rfl
theorem wd_143 : (Cond.instanceMethod y_BD_register) ∈ zx_T := zx_in 175 rfl rfl
theorem wd_144 : (Cond.code y_BD_register prog_1_method_23_code (2 : Nat) (Option.some (FieldType.object "BigDesk$Whole"))) ∈ zx_T := zx_in 176 rfl rfl
theorem wd_145 : (Cond.classLink "BigDesk" (112 : Nat) "java/lang/IllegalArgumentException") ∈ zx_T := zx_in 177 rfl rfl
theorem wd_146 : (Cond.instantiable "java/lang/IllegalArgumentException" (6 : Nat)) ∈ zx_T := zx_in 178 rfl rfl
theorem wd_154 : (Cond.selects "java/lang/IllegalArgumentException" (⟨"java/lang/Throwable", "fillInStackTrace", "(I)Ljava/lang/Throwable;"⟩ : MethodName) (⟨"java/lang/Throwable", "fillInStackTrace", "(I)Ljava/lang/Throwable;"⟩ : MethodName)) ∈ zx_T := zx_in 186 rfl rfl
theorem wd_155 : (Cond.selects "java/lang/IllegalArgumentException" (⟨"java/lang/Throwable", "fillInStackTrace", "()Ljava/lang/Throwable;"⟩ : MethodName) (⟨"java/lang/Throwable", "fillInStackTrace", "()Ljava/lang/Throwable;"⟩ : MethodName)) ∈ zx_T := zx_in 187 rfl rfl
theorem wd_156 : (Cond.lays "java/lang/IllegalArgumentException" "java/lang/Throwable" "cause" "Ljava/lang/Throwable;") ∈ zx_T := zx_in 188 rfl rfl
theorem wd_157 : (Cond.lays "java/lang/Throwable" "java/lang/Throwable" "cause" "Ljava/lang/Throwable;") ∈ zx_T := zx_in 189 rfl rfl
theorem wd_158 : (Cond.lays "java/lang/IllegalArgumentException" "java/lang/Throwable" "stackTrace" "[Ljava/lang/StackTraceElement;") ∈ zx_T := zx_in 190 rfl rfl
theorem wd_159 : (Cond.lays "java/lang/Throwable" "java/lang/Throwable" "stackTrace" "[Ljava/lang/StackTraceElement;") ∈ zx_T := zx_in 191 rfl rfl
theorem wd_160 : (Cond.lays "java/lang/IllegalArgumentException" "java/lang/Throwable" "suppressedExceptions" "Ljava/util/List;") ∈ zx_T := zx_in 192 rfl rfl
theorem wd_161 : (Cond.lays "java/lang/Throwable" "java/lang/Throwable" "suppressedExceptions" "Ljava/util/List;") ∈ zx_T := zx_in 193 rfl rfl
theorem wd_162 : (Cond.lays "java/lang/IllegalArgumentException" "java/lang/Throwable" "detailMessage" "Ljava/lang/String;") ∈ zx_T := zx_in 194 rfl rfl
theorem wd_163 : (Cond.lays "java/lang/Throwable" "java/lang/Throwable" "detailMessage" "Ljava/lang/String;") ∈ zx_T := zx_in 195 rfl rfl
theorem wd_164 : (Cond.lays "java/lang/IllegalArgumentException" "java/lang/Throwable" "backtrace" "Ljava/lang/Object;") ∈ zx_T := zx_in 196 rfl rfl
theorem wd_165 : (Cond.lays "java/lang/Throwable" "java/lang/Throwable" "backtrace" "Ljava/lang/Object;") ∈ zx_T := zx_in 197 rfl rfl
theorem wd_166 : (Cond.fieldLink "java/lang/Throwable" (198 : Nat) "java/lang/Throwable" "backtrace" "Ljava/lang/Object;") ∈ zx_T := zx_in 198 rfl rfl
theorem wd_167 : (Cond.superclass "java/lang/Throwable" "java/lang/Object") ∈ zx_T := zx_in 199 rfl rfl
theorem wd_168 : (Cond.instanceMethod (⟨"java/lang/Throwable", "<init>", "()V"⟩ : MethodName)) ∈ zx_T := zx_in 200 rfl rfl
theorem wd_169 : (Cond.code (⟨"java/lang/Throwable", "<init>", "()V"⟩ : MethodName) prog_18_method_1_code (1 : Nat) (Option.none : Option FieldType)) ∈ zx_T := zx_in 201 rfl rfl
theorem wd_170 : (Cond.methodLink "java/lang/Throwable" (1 : Nat) (⟨"java/lang/Object", "<init>", "()V"⟩ : MethodName)) ∈ zx_T := zx_in 202 rfl rfl
theorem wd_171 : (Cond.fieldLink "java/lang/Throwable" (13 : Nat) "java/lang/Throwable" "UNASSIGNED_STACK" "[Ljava/lang/StackTraceElement;") ∈ zx_T := zx_in 203 rfl rfl
theorem wd_173 : (Cond.fieldLink "java/lang/Throwable" (20 : Nat) "java/lang/Throwable" "SUPPRESSED_SENTINEL" "Ljava/util/List;") ∈ zx_T := zx_in 205 rfl rfl
theorem wd_175 : (Cond.methodLink "java/lang/Throwable" (27 : Nat) (⟨"java/lang/Throwable", "fillInStackTrace", "()Ljava/lang/Throwable;"⟩ : MethodName)) ∈ zx_T := zx_in 207 rfl rfl
theorem wd_176 : (Cond.instanceMethod (⟨"java/lang/Throwable", "fillInStackTrace", "()Ljava/lang/Throwable;"⟩ : MethodName)) ∈ zx_T := zx_in 208 rfl rfl
theorem wd_177 : (Cond.sameMethod "java/lang/Throwable" "java/lang/Throwable" "fillInStackTrace" "()Ljava/lang/Throwable;") ∈ zx_T := zx_in 209 rfl rfl
theorem wd_178 : (Cond.selects "java/lang/ArithmeticException" (⟨"java/lang/Throwable", "fillInStackTrace", "()Ljava/lang/Throwable;"⟩ : MethodName) (⟨"java/lang/Throwable", "fillInStackTrace", "()Ljava/lang/Throwable;"⟩ : MethodName)) ∈ zx_T := zx_in 210 rfl rfl
theorem wd_179 : (Cond.selects "java/lang/IllegalStateException" (⟨"java/lang/Throwable", "fillInStackTrace", "()Ljava/lang/Throwable;"⟩ : MethodName) (⟨"java/lang/Throwable", "fillInStackTrace", "()Ljava/lang/Throwable;"⟩ : MethodName)) ∈ zx_T := zx_in 211 rfl rfl
theorem wd_180 : (Cond.selects "java/util/NoSuchElementException" (⟨"java/lang/Throwable", "fillInStackTrace", "()Ljava/lang/Throwable;"⟩ : MethodName) (⟨"java/lang/Throwable", "fillInStackTrace", "()Ljava/lang/Throwable;"⟩ : MethodName)) ∈ zx_T := zx_in 212 rfl rfl
theorem wd_182 : (Cond.methodLink "java/lang/Throwable" (202 : Nat) (⟨"java/lang/Throwable", "fillInStackTrace", "(I)Ljava/lang/Throwable;"⟩ : MethodName)) ∈ zx_T := zx_in 214 rfl rfl
theorem wd_184 : (Cond.instanceMethod (⟨"java/lang/Throwable", "fillInStackTrace", "(I)Ljava/lang/Throwable;"⟩ : MethodName)) ∈ zx_T := zx_in 216 rfl rfl
theorem wd_185 : (Cond.instantiable "java/lang/Throwable" (6 : Nat)) ∈ zx_T := zx_in 217 rfl rfl
theorem wd_186 : (Cond.native (⟨"java/lang/Throwable", "fillInStackTrace", "(I)Ljava/lang/Throwable;"⟩ : MethodName)) ∈ zx_T := zx_in 218 rfl rfl
theorem wd_188 : (Cond.methodLink "BigDesk" (116 : Nat) (⟨"java/lang/IllegalArgumentException", "<init>", "(Ljava/lang/String;)V"⟩ : MethodName)) ∈ zx_T := zx_in 220 rfl rfl
theorem wd_189 : (Cond.instanceMethod (⟨"java/lang/IllegalArgumentException", "<init>", "(Ljava/lang/String;)V"⟩ : MethodName)) ∈ zx_T := zx_in 221 rfl rfl
theorem wd_190 : (Cond.code (⟨"java/lang/IllegalArgumentException", "<init>", "(Ljava/lang/String;)V"⟩ : MethodName) prog_11_method_2_code (2 : Nat) (Option.none : Option FieldType)) ∈ zx_T := zx_in 222 rfl rfl
theorem wd_191 : (Cond.methodLink "java/lang/IllegalArgumentException" (7 : Nat) (⟨"java/lang/RuntimeException", "<init>", "(Ljava/lang/String;)V"⟩ : MethodName)) ∈ zx_T := zx_in 223 rfl rfl
theorem wd_192 : (Cond.instanceMethod (⟨"java/lang/RuntimeException", "<init>", "(Ljava/lang/String;)V"⟩ : MethodName)) ∈ zx_T := zx_in 224 rfl rfl
theorem wd_193 : (Cond.code (⟨"java/lang/RuntimeException", "<init>", "(Ljava/lang/String;)V"⟩ : MethodName) prog_15_method_2_code (2 : Nat) (Option.none : Option FieldType)) ∈ zx_T := zx_in 225 rfl rfl
theorem wd_194 : (Cond.methodLink "java/lang/RuntimeException" (7 : Nat) (⟨"java/lang/Exception", "<init>", "(Ljava/lang/String;)V"⟩ : MethodName)) ∈ zx_T := zx_in 226 rfl rfl
theorem wd_195 : (Cond.instanceMethod (⟨"java/lang/Exception", "<init>", "(Ljava/lang/String;)V"⟩ : MethodName)) ∈ zx_T := zx_in 227 rfl rfl
theorem wd_196 : (Cond.code (⟨"java/lang/Exception", "<init>", "(Ljava/lang/String;)V"⟩ : MethodName) prog_10_method_2_code (2 : Nat) (Option.none : Option FieldType)) ∈ zx_T := zx_in 228 rfl rfl
theorem wd_197 : (Cond.methodLink "java/lang/Exception" (7 : Nat) (⟨"java/lang/Throwable", "<init>", "(Ljava/lang/String;)V"⟩ : MethodName)) ∈ zx_T := zx_in 229 rfl rfl
theorem wd_198 : (Cond.instanceMethod (⟨"java/lang/Throwable", "<init>", "(Ljava/lang/String;)V"⟩ : MethodName)) ∈ zx_T := zx_in 230 rfl rfl
theorem wd_199 : (Cond.code (⟨"java/lang/Throwable", "<init>", "(Ljava/lang/String;)V"⟩ : MethodName) prog_18_method_2_code (2 : Nat) (Option.none : Option FieldType)) ∈ zx_T := zx_in 231 rfl rfl
theorem wd_200 : (Cond.fieldLink "java/lang/Throwable" (198 : Nat) "java/lang/Throwable" "backtrace" "Ljava/lang/Object;") ∈ zx_T := zx_in 232 rfl rfl
theorem wd_201 : (Cond.fieldLink "java/lang/Throwable" (31 : Nat) "java/lang/Throwable" "detailMessage" "Ljava/lang/String;") ∈ zx_T := zx_in 233 rfl rfl
theorem wd_202 : (Cond.fieldLink "java/lang/Throwable" (7 : Nat) "java/lang/Throwable" "cause" "Ljava/lang/Throwable;") ∈ zx_T := zx_in 234 rfl rfl
theorem wd_203 : (Cond.fieldLink "java/lang/Throwable" (17 : Nat) "java/lang/Throwable" "stackTrace" "[Ljava/lang/StackTraceElement;") ∈ zx_T := zx_in 235 rfl rfl
theorem wd_204 : (Cond.fieldLink "java/lang/Throwable" (24 : Nat) "java/lang/Throwable" "suppressedExceptions" "Ljava/util/List;") ∈ zx_T := zx_in 236 rfl rfl
theorem wd_205 : (Cond.soleField "java/lang/Throwable" "backtrace") ∈ zx_T := zx_in 237 rfl rfl
theorem wd_206 : (Cond.soleField "java/lang/Throwable" "detailMessage") ∈ zx_T := zx_in 238 rfl rfl
theorem wd_207 : (Cond.soleField "java/lang/Throwable" "cause") ∈ zx_T := zx_in 239 rfl rfl
theorem wd_208 : (Cond.soleField "java/lang/Throwable" "stackTrace") ∈ zx_T := zx_in 240 rfl rfl
theorem wd_209 : (Cond.lays "java/lang/IllegalArgumentException" "java/lang/Throwable" "depth" "I") ∈ zx_T := zx_in 241 rfl rfl
theorem wd_210 : (Cond.soleField "java/lang/Throwable" "depth") ∈ zx_T := zx_in 242 rfl rfl
theorem wd_211 : (Cond.soleField "java/lang/Throwable" "suppressedExceptions") ∈ zx_T := zx_in 243 rfl rfl
theorem wd_212 : (Cond.superclass "java/lang/IllegalArgumentException" "java/lang/RuntimeException") ∈ zx_T := zx_in 244 rfl rfl
theorem wd_213 : (Cond.methodLink "BigDesk" (55 : Nat) y_WH_becomeLong) ∈ zx_T := zx_in 245 rfl rfl
theorem wd_214 : (Cond.instanceMethod y_WH_becomeLong) ∈ zx_T := zx_in 246 rfl rfl
theorem wd_215 : (Cond.selects "BigDesk$Whole" y_WH_becomeLong y_WH_becomeLong) ∈ zx_T := zx_in 247 rfl rfl
theorem wd_216 : (Cond.code y_WH_becomeLong prog_6_method_4_code (5 : Nat) (Option.none : Option FieldType)) ∈ zx_T := zx_in 248 rfl rfl
theorem wd_217 : (Cond.constantLong "BigDesk$Whole" (33 : Nat) (4294967295 : Int64)) ∈ zx_T := zx_in 249 rfl rfl
theorem wd_218 : (Cond.methodLink "BigDesk$Whole" (23 : Nat) y_WH_settle) ∈ zx_T := zx_in 250 rfl rfl
theorem wd_219 : (Cond.instanceMethod y_WH_settle) ∈ zx_T := zx_in 251 rfl rfl
theorem wd_220 : (Cond.selects "BigDesk$Whole" y_WH_settle y_WH_settle) ∈ zx_T := zx_in 252 rfl rfl
theorem wd_221 : (Cond.code y_WH_settle prog_6_method_7_code (3 : Nat) (Option.none : Option FieldType)) ∈ zx_T := zx_in 253 rfl rfl
theorem wd_222 : (Cond.methodLink "BigDesk$Whole" (35 : Nat) y_WH_markSign) ∈ zx_T := zx_in 254 rfl rfl
theorem wd_223 : (Cond.instanceMethod y_WH_markSign) ∈ zx_T := zx_in 255 rfl rfl
theorem wd_224 : (Cond.selects "BigDesk$Whole" y_WH_markSign y_WH_markSign) ∈ zx_T := zx_in 256 rfl rfl
theorem wd_225 : (Cond.code y_WH_markSign prog_6_method_8_code (2 : Nat) (Option.none : Option FieldType)) ∈ zx_T := zx_in 257 rfl rfl
theorem wd_226 : (Cond.methodLink "BigDeskLaw" (108 : Nat) y_LW_copy) ∈ zx_T := zx_in 258 rfl rfl
theorem wd_227 : (Cond.static y_LW_copy) ∈ zx_T := zx_in 259 rfl rfl
theorem wd_228 : (Cond.codeWith y_LW_copy method_4_code (4 : Nat) (Option.some FieldType.int) [((0 : Nat), (6 : Nat), (9 : Nat), (13 : Nat))]) ∈ zx_T := zx_in 260 rfl rfl
theorem wd_229 : (Cond.methodLink "BigDeskLaw" (15 : Nat) y_BD_copy) ∈ zx_T := zx_in 261 rfl rfl
theorem wd_230 : (Cond.instanceMethod y_BD_copy) ∈ zx_T := zx_in 262 rfl rfl
theorem wd_231 : (Cond.selects "BigDesk" y_BD_copy y_BD_copy) ∈ zx_T := zx_in 263 rfl rfl
theorem wd_232 : (Cond.code y_BD_copy prog_1_method_3_code (4 : Nat) (Option.none : Option FieldType)) ∈ zx_T := zx_in 264 rfl rfl
theorem wd_233 : (Cond.methodLink "BigDesk" (59 : Nat) y_WH_become) ∈ zx_T := zx_in 265 rfl rfl
theorem wd_234 : (Cond.instanceMethod y_WH_become) ∈ zx_T := zx_in 266 rfl rfl
theorem wd_235 : (Cond.selects "BigDesk$Whole" y_WH_become y_WH_become) ∈ zx_T := zx_in 267 rfl rfl
theorem wd_236 : (Cond.code y_WH_become prog_6_method_3_code (2 : Nat) (Option.none : Option FieldType)) ∈ zx_T := zx_in 268 rfl rfl
theorem wd_237 : (Cond.methodLink "BigDesk$Whole" (27 : Nat) (⟨"java/lang/System", "arraycopy", "(Ljava/lang/Object;ILjava/lang/Object;II)V"⟩ : MethodName)) ∈ zx_T := zx_in 269 rfl rfl
theorem wd_238 : (Cond.static (⟨"java/lang/System", "arraycopy", "(Ljava/lang/Object;ILjava/lang/Object;II)V"⟩ : MethodName)) ∈ zx_T := zx_in 270 rfl rfl
theorem wd_239 : (Cond.native (⟨"java/lang/System", "arraycopy", "(Ljava/lang/Object;ILjava/lang/Object;II)V"⟩ : MethodName)) ∈ zx_T := zx_in 271 rfl rfl
theorem wd_240 : (Cond.methodLink "BigDeskLaw" (112 : Nat) y_LW_add) ∈ zx_T := zx_in 272 rfl rfl
theorem wd_241 : (Cond.static y_LW_add) ∈ zx_T := zx_in 273 rfl rfl
theorem wd_242 : (Cond.codeWith y_LW_add method_5_code (5 : Nat) (Option.some FieldType.int) [((0 : Nat), (7 : Nat), (10 : Nat), (13 : Nat)), ((0 : Nat), (7 : Nat), (14 : Nat), (23 : Nat))]) ∈ zx_T := zx_in 274 rfl rfl
theorem wd_243 : (Cond.classLink "BigDeskLaw" (23 : Nat) "java/lang/IllegalStateException") ∈ zx_T := zx_in 275 rfl rfl
theorem wd_244 : (Cond.methodLink "BigDeskLaw" (19 : Nat) y_BD_add) ∈ zx_T := zx_in 276 rfl rfl
theorem wd_245 : (Cond.instanceMethod y_BD_add) ∈ zx_T := zx_in 277 rfl rfl
theorem wd_246 : (Cond.selects "BigDesk" y_BD_add y_BD_add) ∈ zx_T := zx_in 278 rfl rfl
theorem wd_247 : (Cond.code y_BD_add prog_1_method_4_code (5 : Nat) (Option.none : Option FieldType)) ∈ zx_T := zx_in 279 rfl rfl
theorem wd_248 : (Cond.methodLink "BigDesk" (63 : Nat) y_SU_total) ∈ zx_T := zx_in 280 rfl rfl
theorem wd_249 : (Cond.static y_SU_total) ∈ zx_T := zx_in 281 rfl rfl
theorem wd_250 : (Cond.code y_SU_total prog_4_method_2_code (5 : Nat) (Option.none : Option FieldType)) ∈ zx_T := zx_in 282 rfl rfl
theorem wd_251 : (Cond.methodLink "BigDesk$Sums" (15 : Nat) y_SU_sumOfAbsolutes) ∈ zx_T := zx_in 283 rfl rfl
theorem wd_252 : (Cond.static y_SU_sumOfAbsolutes) ∈ zx_T := zx_in 284 rfl rfl
theorem wd_253 : (Cond.code y_SU_sumOfAbsolutes prog_4_method_4_code (9 : Nat) (Option.none : Option FieldType)) ∈ zx_T := zx_in 285 rfl rfl
theorem wd_254 : (Cond.methodLink "BigDesk$Sums" (40 : Nat) y_JM_max) ∈ zx_T := zx_in 286 rfl rfl
theorem wd_255 : (Cond.static y_JM_max) ∈ zx_T := zx_in 287 rfl rfl
theorem wd_256 : (Cond.code y_JM_max prog_14_method_65_code (2 : Nat) (Option.some FieldType.int)) ∈ zx_T := zx_in 288 rfl rfl
theorem wd_257 : (Cond.methodLink "BigDesk$Sums" (46 : Nat) y_JM_min) ∈ zx_T := zx_in 289 rfl rfl
theorem wd_258 : (Cond.static y_JM_min) ∈ zx_T := zx_in 290 rfl rfl
theorem wd_259 : (Cond.code y_JM_min prog_14_method_69_code (2 : Nat) (Option.some FieldType.int)) ∈ zx_T := zx_in 291 rfl rfl
theorem wd_260 : (Cond.constantLong "BigDesk$Sums" (49 : Nat) (4294967295 : Int64)) ∈ zx_T := zx_in 292 rfl rfl
theorem wd_261 : (Cond.methodLink "BigDesk$Sums" (51 : Nat) y_WH_settle) ∈ zx_T := zx_in 293 rfl rfl
theorem wd_262 : (Cond.methodLink "BigDesk$Sums" (21 : Nat) y_WH_markSign) ∈ zx_T := zx_in 294 rfl rfl
theorem wd_263 : (Cond.methodLink "BigDesk$Sums" (25 : Nat) y_SU_orderOfAbsolutes) ∈ zx_T := zx_in 295 rfl rfl
theorem wd_264 : (Cond.static y_SU_orderOfAbsolutes) ∈ zx_T := zx_in 296 rfl rfl
theorem wd_265 : (Cond.code y_SU_orderOfAbsolutes prog_4_method_3_code (3 : Nat) (Option.some FieldType.int)) ∈ zx_T := zx_in 297 rfl rfl
theorem wd_266 : (Cond.methodLink "BigDesk$Sums" (29 : Nat) y_SU_differenceOfAbsolutes) ∈ zx_T := zx_in 298 rfl rfl
theorem wd_267 : (Cond.static y_SU_differenceOfAbsolutes) ∈ zx_T := zx_in 299 rfl rfl
theorem wd_268 : (Cond.code y_SU_differenceOfAbsolutes prog_4_method_5_code (9 : Nat) (Option.none : Option FieldType)) ∈ zx_T := zx_in 300 rfl rfl
theorem wd_269 : (Cond.methodLink "BigDesk" (69 : Nat) y_BD_keepMade) ∈ zx_T := zx_in 301 rfl rfl
theorem wd_271 : (Cond.instanceMethod y_BD_keepMade) ∈ zx_T := zx_in 303 rfl rfl
theorem wd_272 : (Cond.code y_BD_keepMade prog_1_method_26_code (2 : Nat) (Option.none : Option FieldType)) ∈ zx_T := zx_in 304 rfl rfl
theorem wd_273 : (Cond.methodLink "BigDesk" (80 : Nat) y_WH_bits) ∈ zx_T := zx_in 305 rfl rfl
theorem wd_274 : (Cond.instanceMethod y_WH_bits) ∈ zx_T := zx_in 306 rfl rfl
theorem wd_275 : (Cond.selects "BigDesk$Whole" y_WH_bits y_WH_bits) ∈ zx_T := zx_in 307 rfl rfl
theorem wd_276 : (Cond.code y_WH_bits prog_6_method_10_code (1 : Nat) (Option.some FieldType.int)) ∈ zx_T := zx_in 308 rfl rfl
theorem wd_277 : (Cond.methodLink "BigDesk$Whole" (52 : Nat) y_WH_bitsOf) ∈ zx_T := zx_in 309 rfl rfl
theorem wd_278 : (Cond.static y_WH_bitsOf) ∈ zx_T := zx_in 310 rfl rfl
theorem wd_279 : (Cond.code y_WH_bitsOf prog_6_method_19_code (3 : Nat) (Option.some FieldType.int)) ∈ zx_T := zx_in 311 rfl rfl
theorem wd_280 : (Cond.classLink "BigDesk" (84 : Nat) "java/lang/IllegalStateException") ∈ zx_T := zx_in 312 rfl rfl
theorem wd_281 : (Cond.instantiable "java/lang/IllegalStateException" (6 : Nat)) ∈ zx_T := zx_in 313 rfl rfl
theorem wd_283 : (Cond.selects "java/lang/IllegalStateException" (⟨"java/lang/Throwable", "fillInStackTrace", "(I)Ljava/lang/Throwable;"⟩ : MethodName) (⟨"java/lang/Throwable", "fillInStackTrace", "(I)Ljava/lang/Throwable;"⟩ : MethodName)) ∈ zx_T := zx_in 315 rfl rfl
theorem wd_284 : (Cond.lays "java/lang/IllegalStateException" "java/lang/Throwable" "cause" "Ljava/lang/Throwable;") ∈ zx_T := zx_in 316 rfl rfl
theorem wd_285 : (Cond.lays "java/lang/IllegalStateException" "java/lang/Throwable" "stackTrace" "[Ljava/lang/StackTraceElement;") ∈ zx_T := zx_in 317 rfl rfl
theorem wd_286 : (Cond.lays "java/lang/IllegalStateException" "java/lang/Throwable" "suppressedExceptions" "Ljava/util/List;") ∈ zx_T := zx_in 318 rfl rfl
theorem wd_287 : (Cond.lays "java/lang/IllegalStateException" "java/lang/Throwable" "detailMessage" "Ljava/lang/String;") ∈ zx_T := zx_in 319 rfl rfl
theorem wd_288 : (Cond.lays "java/lang/IllegalStateException" "java/lang/Throwable" "backtrace" "Ljava/lang/Object;") ∈ zx_T := zx_in 320 rfl rfl
theorem wd_290 : (Cond.methodLink "BigDesk" (88 : Nat) (⟨"java/lang/IllegalStateException", "<init>", "(Ljava/lang/String;)V"⟩ : MethodName)) ∈ zx_T := zx_in 322 rfl rfl
theorem wd_291 : (Cond.instanceMethod (⟨"java/lang/IllegalStateException", "<init>", "(Ljava/lang/String;)V"⟩ : MethodName)) ∈ zx_T := zx_in 323 rfl rfl
theorem wd_292 : (Cond.code (⟨"java/lang/IllegalStateException", "<init>", "(Ljava/lang/String;)V"⟩ : MethodName) prog_12_method_2_code (2 : Nat) (Option.none : Option FieldType)) ∈ zx_T := zx_in 324 rfl rfl
theorem wd_293 : (Cond.methodLink "java/lang/IllegalStateException" (7 : Nat) (⟨"java/lang/RuntimeException", "<init>", "(Ljava/lang/String;)V"⟩ : MethodName)) ∈ zx_T := zx_in 325 rfl rfl
theorem wd_294 : (Cond.lays "java/lang/IllegalStateException" "java/lang/Throwable" "depth" "I") ∈ zx_T := zx_in 326 rfl rfl
theorem wd_295 : (Cond.superclass "java/lang/IllegalStateException" "java/lang/RuntimeException") ∈ zx_T := zx_in 327 rfl rfl
theorem wd_296 : (Cond.methodLink "BigDeskLaw" (116 : Nat) y_LW_subtract) ∈ zx_T := zx_in 328 rfl rfl
theorem wd_297 : (Cond.static y_LW_subtract) ∈ zx_T := zx_in 329 rfl rfl
theorem wd_298 : (Cond.codeWith y_LW_subtract method_6_code (5 : Nat) (Option.some FieldType.int) [((0 : Nat), (7 : Nat), (10 : Nat), (13 : Nat)), ((0 : Nat), (7 : Nat), (14 : Nat), (23 : Nat))]) ∈ zx_T := zx_in 330 rfl rfl
theorem wd_299 : (Cond.methodLink "BigDeskLaw" (25 : Nat) y_BD_subtract) ∈ zx_T := zx_in 331 rfl rfl
theorem wd_300 : (Cond.instanceMethod y_BD_subtract) ∈ zx_T := zx_in 332 rfl rfl
theorem wd_301 : (Cond.selects "BigDesk" y_BD_subtract y_BD_subtract) ∈ zx_T := zx_in 333 rfl rfl
theorem wd_302 : (Cond.code y_BD_subtract prog_1_method_5_code (5 : Nat) (Option.none : Option FieldType)) ∈ zx_T := zx_in 334 rfl rfl
theorem wd_303 : (Cond.methodLink "BigDeskLaw" (119 : Nat) y_LW_multiply) ∈ zx_T := zx_in 335 rfl rfl
theorem wd_304 : (Cond.static y_LW_multiply) ∈ zx_T := zx_in 336 rfl rfl
theorem wd_305 : (Cond.codeWith y_LW_multiply method_7_code (5 : Nat) (Option.some FieldType.int) [((0 : Nat), (7 : Nat), (10 : Nat), (13 : Nat)), ((0 : Nat), (7 : Nat), (14 : Nat), (23 : Nat))]) ∈ zx_T := zx_in 337 rfl rfl
theorem wd_306 : (Cond.methodLink "BigDeskLaw" (28 : Nat) y_BD_multiply) ∈ zx_T := zx_in 338 rfl rfl
theorem wd_307 : (Cond.instanceMethod y_BD_multiply) ∈ zx_T := zx_in 339 rfl rfl
theorem wd_308 : (Cond.selects "BigDesk" y_BD_multiply y_BD_multiply) ∈ zx_T := zx_in 340 rfl rfl
theorem wd_309 : (Cond.code y_BD_multiply prog_1_method_6_code (5 : Nat) (Option.none : Option FieldType)) ∈ zx_T := zx_in 341 rfl rfl
theorem wd_310 : (Cond.methodLink "BigDesk" (72 : Nat) y_BD_keepProduct) ∈ zx_T := zx_in 342 rfl rfl
theorem wd_312 : (Cond.instanceMethod y_BD_keepProduct) ∈ zx_T := zx_in 344 rfl rfl
theorem wd_313 : (Cond.code y_BD_keepProduct prog_1_method_25_code (4 : Nat) (Option.none : Option FieldType)) ∈ zx_T := zx_in 345 rfl rfl
theorem wd_314 : (Cond.methodLink "BigDesk" (194 : Nat) y_SU_product) ∈ zx_T := zx_in 346 rfl rfl
theorem wd_315 : (Cond.static y_SU_product) ∈ zx_T := zx_in 347 rfl rfl
theorem wd_316 : (Cond.code y_SU_product prog_4_method_6_code (5 : Nat) (Option.some FieldType.boolean)) ∈ zx_T := zx_in 348 rfl rfl
theorem wd_317 : (Cond.methodLink "BigDesk$Sums" (55 : Nat) y_SU_addRow) ∈ zx_T := zx_in 349 rfl rfl
theorem wd_318 : (Cond.static y_SU_addRow) ∈ zx_T := zx_in 350 rfl rfl
theorem wd_319 : (Cond.code y_SU_addRow prog_4_method_7_code (12 : Nat) (Option.none : Option FieldType)) ∈ zx_T := zx_in 351 rfl rfl
theorem wd_320 : (Cond.methodLink "BigDeskLaw" (122 : Nat) y_LW_times) ∈ zx_T := zx_in 352 rfl rfl
theorem wd_321 : (Cond.static y_LW_times) ∈ zx_T := zx_in 353 rfl rfl
theorem wd_322 : (Cond.codeWith y_LW_times method_8_code (6 : Nat) (Option.some FieldType.int) [((0 : Nat), (7 : Nat), (10 : Nat), (13 : Nat)), ((0 : Nat), (7 : Nat), (14 : Nat), (23 : Nat))]) ∈ zx_T := zx_in 354 rfl rfl
theorem wd_323 : (Cond.methodLink "BigDeskLaw" (31 : Nat) y_BD_times) ∈ zx_T := zx_in 355 rfl rfl
theorem wd_324 : (Cond.instanceMethod y_BD_times) ∈ zx_T := zx_in 356 rfl rfl
theorem wd_325 : (Cond.selects "BigDesk" y_BD_times y_BD_times) ∈ zx_T := zx_in 357 rfl rfl
theorem wd_326 : (Cond.code y_BD_times prog_1_method_7_code (7 : Nat) (Option.none : Option FieldType)) ∈ zx_T := zx_in 358 rfl rfl
theorem wd_327 : (Cond.methodLink "BigDeskLaw" (126 : Nat) y_LW_shift) ∈ zx_T := zx_in 359 rfl rfl
theorem wd_328 : (Cond.static y_LW_shift) ∈ zx_T := zx_in 360 rfl rfl
theorem wd_329 : (Cond.codeWith y_LW_shift method_9_code (5 : Nat) (Option.some FieldType.int) [((0 : Nat), (7 : Nat), (10 : Nat), (13 : Nat)), ((0 : Nat), (7 : Nat), (14 : Nat), (23 : Nat))]) ∈ zx_T := zx_in 361 rfl rfl
theorem wd_330 : (Cond.methodLink "BigDeskLaw" (35 : Nat) y_BD_shift) ∈ zx_T := zx_in 362 rfl rfl
theorem wd_331 : (Cond.instanceMethod y_BD_shift) ∈ zx_T := zx_in 363 rfl rfl
theorem wd_332 : (Cond.selects "BigDesk" y_BD_shift y_BD_shift) ∈ zx_T := zx_in 364 rfl rfl
theorem wd_333 : (Cond.code y_BD_shift prog_1_method_8_code (6 : Nat) (Option.none : Option FieldType)) ∈ zx_T := zx_in 365 rfl rfl
theorem wd_334 : (Cond.methodLink "BigDesk" (76 : Nat) y_BD_requireShift) ∈ zx_T := zx_in 366 rfl rfl
theorem wd_335 : (Cond.static y_BD_requireShift) ∈ zx_T := zx_in 367 rfl rfl
theorem wd_336 : (Cond.code y_BD_requireShift prog_1_method_24_code (1 : Nat) (Option.none : Option FieldType)) ∈ zx_T := zx_in 368 rfl rfl
theorem wd_338 : (Cond.methodLink "BigDesk" (91 : Nat) y_WH_becomeShiftedUp) ∈ zx_T := zx_in 370 rfl rfl
theorem wd_339 : (Cond.instanceMethod y_WH_becomeShiftedUp) ∈ zx_T := zx_in 371 rfl rfl
theorem wd_340 : (Cond.selects "BigDesk$Whole" y_WH_becomeShiftedUp y_WH_becomeShiftedUp) ∈ zx_T := zx_in 372 rfl rfl
theorem wd_341 : (Cond.code y_WH_becomeShiftedUp prog_6_method_5_code (9 : Nat) (Option.none : Option FieldType)) ∈ zx_T := zx_in 373 rfl rfl
theorem wd_342 : (Cond.methodLink "BigDesk$Whole" (39 : Nat) y_JM_min) ∈ zx_T := zx_in 374 rfl rfl
theorem wd_343 : (Cond.methodLink "BigDesk$Whole" (45 : Nat) y_WH_at) ∈ zx_T := zx_in 375 rfl rfl
theorem wd_344 : (Cond.instanceMethod y_WH_at) ∈ zx_T := zx_in 376 rfl rfl
theorem wd_345 : (Cond.selects "BigDesk$Whole" y_WH_at y_WH_at) ∈ zx_T := zx_in 377 rfl rfl
theorem wd_346 : (Cond.code y_WH_at prog_6_method_9_code (2 : Nat) (Option.some FieldType.long)) ∈ zx_T := zx_in 378 rfl rfl
theorem wd_347 : (Cond.methodLink "BigDesk" (99 : Nat) y_WH_markSign) ∈ zx_T := zx_in 379 rfl rfl
theorem wd_348 : (Cond.methodLink "BigDeskLaw" (129 : Nat) y_LW_half) ∈ zx_T := zx_in 380 rfl rfl
theorem wd_349 : (Cond.static y_LW_half) ∈ zx_T := zx_in 381 rfl rfl
theorem wd_350 : (Cond.codeWith y_LW_half method_10_code (5 : Nat) (Option.some FieldType.int) [((0 : Nat), (7 : Nat), (10 : Nat), (13 : Nat))]) ∈ zx_T := zx_in 382 rfl rfl
theorem wd_351 : (Cond.methodLink "BigDeskLaw" (38 : Nat) y_BD_half) ∈ zx_T := zx_in 383 rfl rfl
theorem wd_352 : (Cond.instanceMethod y_BD_half) ∈ zx_T := zx_in 384 rfl rfl
theorem wd_353 : (Cond.selects "BigDesk" y_BD_half y_BD_half) ∈ zx_T := zx_in 385 rfl rfl
theorem wd_354 : (Cond.code y_BD_half prog_1_method_9_code (6 : Nat) (Option.none : Option FieldType)) ∈ zx_T := zx_in 386 rfl rfl
theorem wd_355 : (Cond.methodLink "BigDesk" (103 : Nat) y_WH_becomeShiftedDown) ∈ zx_T := zx_in 387 rfl rfl
theorem wd_356 : (Cond.instanceMethod y_WH_becomeShiftedDown) ∈ zx_T := zx_in 388 rfl rfl
theorem wd_357 : (Cond.selects "BigDesk$Whole" y_WH_becomeShiftedDown y_WH_becomeShiftedDown) ∈ zx_T := zx_in 389 rfl rfl
theorem wd_358 : (Cond.code y_WH_becomeShiftedDown prog_6_method_6_code (9 : Nat) (Option.none : Option FieldType)) ∈ zx_T := zx_in 390 rfl rfl
theorem wd_359 : (Cond.methodLink "BigDesk$Whole" (49 : Nat) y_JM_max) ∈ zx_T := zx_in 391 rfl rfl
theorem wd_360 : (Cond.methodLink "BigDesk" (106 : Nat) y_WH_endingZeros) ∈ zx_T := zx_in 392 rfl rfl
theorem wd_361 : (Cond.instanceMethod y_WH_endingZeros) ∈ zx_T := zx_in 393 rfl rfl
theorem wd_362 : (Cond.selects "BigDesk$Whole" y_WH_endingZeros y_WH_endingZeros) ∈ zx_T := zx_in 394 rfl rfl
theorem wd_363 : (Cond.code y_WH_endingZeros prog_6_method_11_code (4 : Nat) (Option.some FieldType.int)) ∈ zx_T := zx_in 395 rfl rfl
theorem wd_364 : (Cond.constantLong "BigDesk$Whole" (56 : Nat) (-1 : Int64)) ∈ zx_T := zx_in 396 rfl rfl
theorem wd_365 : (Cond.methodLink "BigDesk$Whole" (58 : Nat) y_JL_bitCount) ∈ zx_T := zx_in 397 rfl rfl
theorem wd_366 : (Cond.static y_JL_bitCount) ∈ zx_T := zx_in 398 rfl rfl
theorem wd_367 : (Cond.code y_JL_bitCount prog_13_method_50_code (2 : Nat) (Option.some FieldType.int)) ∈ zx_T := zx_in 399 rfl rfl
theorem wd_368 : (Cond.constantLong "java/lang/Long" (314 : Nat) (6148914691236517205 : Int64)) ∈ zx_T := zx_in 400 rfl rfl
theorem wd_369 : (Cond.constantLong "java/lang/Long" (316 : Nat) (3689348814741910323 : Int64)) ∈ zx_T := zx_in 401 rfl rfl
theorem wd_370 : (Cond.constantLong "java/lang/Long" (318 : Nat) (1085102592571150095 : Int64)) ∈ zx_T := zx_in 402 rfl rfl
theorem wd_371 : (Cond.methodLink "BigDesk" (109 : Nat) y_WH_addOne) ∈ zx_T := zx_in 403 rfl rfl
theorem wd_372 : (Cond.instanceMethod y_WH_addOne) ∈ zx_T := zx_in 404 rfl rfl
theorem wd_373 : (Cond.selects "BigDesk$Whole" y_WH_addOne y_WH_addOne) ∈ zx_T := zx_in 405 rfl rfl
theorem wd_374 : (Cond.code y_WH_addOne prog_6_method_16_code (2 : Nat) (Option.none : Option FieldType)) ∈ zx_T := zx_in 406 rfl rfl
theorem wd_375 : (Cond.methodLink "BigDeskLaw" (132 : Nat) y_LW_divide) ∈ zx_T := zx_in 407 rfl rfl
theorem wd_376 : (Cond.static y_LW_divide) ∈ zx_T := zx_in 408 rfl rfl
theorem wd_377 : (Cond.codeWith y_LW_divide method_11_code (6 : Nat) (Option.some FieldType.int) [((0 : Nat), (9 : Nat), (12 : Nat), (13 : Nat)), ((0 : Nat), (9 : Nat), (16 : Nat), (45 : Nat))]) ∈ zx_T := zx_in 409 rfl rfl
theorem wd_378 : (Cond.classLink "BigDeskLaw" (45 : Nat) "java/lang/ArithmeticException") ∈ zx_T := zx_in 410 rfl rfl
theorem wd_379 : (Cond.methodLink "BigDeskLaw" (41 : Nat) y_BD_divide) ∈ zx_T := zx_in 411 rfl rfl
theorem wd_380 : (Cond.instanceMethod y_BD_divide) ∈ zx_T := zx_in 412 rfl rfl
set_option maxRecDepth 20000 in
theorem wd_381 : (Cond.selects "BigDesk" y_BD_divide y_BD_divide) ∈ zx_T := zx_in 413 rfl rfl
set_option maxRecDepth 20000 in
theorem wd_382 : (Cond.code y_BD_divide prog_1_method_10_code (9 : Nat) (Option.none : Option FieldType)) ∈ zx_T := zx_in 414 rfl rfl
set_option maxRecDepth 20000 in
theorem wd_384 : (Cond.classLink "BigDesk" (120 : Nat) "java/lang/ArithmeticException") ∈ zx_T := zx_in 416 rfl rfl
set_option maxRecDepth 20000 in
theorem wd_385 : (Cond.instantiable "java/lang/ArithmeticException" (6 : Nat)) ∈ zx_T := zx_in 417 rfl rfl
set_option maxRecDepth 20000 in
theorem wd_387 : (Cond.selects "java/lang/ArithmeticException" (⟨"java/lang/Throwable", "fillInStackTrace", "(I)Ljava/lang/Throwable;"⟩ : MethodName) (⟨"java/lang/Throwable", "fillInStackTrace", "(I)Ljava/lang/Throwable;"⟩ : MethodName)) ∈ zx_T := zx_in 419 rfl rfl
set_option maxRecDepth 20000 in
theorem wd_388 : (Cond.lays "java/lang/ArithmeticException" "java/lang/Throwable" "cause" "Ljava/lang/Throwable;") ∈ zx_T := zx_in 420 rfl rfl
set_option maxRecDepth 20000 in
theorem wd_389 : (Cond.lays "java/lang/ArithmeticException" "java/lang/Throwable" "stackTrace" "[Ljava/lang/StackTraceElement;") ∈ zx_T := zx_in 421 rfl rfl
set_option maxRecDepth 20000 in
theorem wd_390 : (Cond.lays "java/lang/ArithmeticException" "java/lang/Throwable" "suppressedExceptions" "Ljava/util/List;") ∈ zx_T := zx_in 422 rfl rfl
set_option maxRecDepth 20000 in
theorem wd_391 : (Cond.lays "java/lang/ArithmeticException" "java/lang/Throwable" "detailMessage" "Ljava/lang/String;") ∈ zx_T := zx_in 423 rfl rfl
set_option maxRecDepth 20000 in
theorem wd_392 : (Cond.lays "java/lang/ArithmeticException" "java/lang/Throwable" "backtrace" "Ljava/lang/Object;") ∈ zx_T := zx_in 424 rfl rfl
set_option maxRecDepth 20000 in
theorem wd_394 : (Cond.methodLink "BigDesk" (124 : Nat) (⟨"java/lang/ArithmeticException", "<init>", "(Ljava/lang/String;)V"⟩ : MethodName)) ∈ zx_T := zx_in 426 rfl rfl
set_option maxRecDepth 20000 in
theorem wd_395 : (Cond.instanceMethod (⟨"java/lang/ArithmeticException", "<init>", "(Ljava/lang/String;)V"⟩ : MethodName)) ∈ zx_T := zx_in 427 rfl rfl
set_option maxRecDepth 20000 in
theorem wd_396 : (Cond.code (⟨"java/lang/ArithmeticException", "<init>", "(Ljava/lang/String;)V"⟩ : MethodName) prog_9_method_2_code (2 : Nat) (Option.none : Option FieldType)) ∈ zx_T := zx_in 428 rfl rfl
set_option maxRecDepth 20000 in
theorem wd_397 : (Cond.methodLink "java/lang/ArithmeticException" (7 : Nat) (⟨"java/lang/RuntimeException", "<init>", "(Ljava/lang/String;)V"⟩ : MethodName)) ∈ zx_T := zx_in 429 rfl rfl
set_option maxRecDepth 20000 in
theorem wd_398 : (Cond.lays "java/lang/ArithmeticException" "java/lang/Throwable" "depth" "I") ∈ zx_T := zx_in 430 rfl rfl
set_option maxRecDepth 20000 in
theorem wd_399 : (Cond.superclass "java/lang/ArithmeticException" "java/lang/RuntimeException") ∈ zx_T := zx_in 431 rfl rfl
set_option maxRecDepth 20000 in
theorem wd_400 : (Cond.methodLink "BigDesk" (125 : Nat) y_DV_downwards) ∈ zx_T := zx_in 432 rfl rfl
set_option maxRecDepth 20000 in
theorem wd_401 : (Cond.instanceMethod y_DV_downwards) ∈ zx_T := zx_in 433 rfl rfl
set_option maxRecDepth 20000 in
theorem wd_402 : (Cond.selects "BigDesk$Division" y_DV_downwards y_DV_downwards) ∈ zx_T := zx_in 434 rfl rfl
set_option maxRecDepth 20000 in
theorem wd_403 : (Cond.code y_DV_downwards prog_3_method_2_code (4 : Nat) (Option.none : Option FieldType)) ∈ zx_T := zx_in 435 rfl rfl
set_option maxRecDepth 20000 in
theorem wd_404 : (Cond.methodLink "BigDesk$Division" (24 : Nat) y_DV_ofAbsolutes) ∈ zx_T := zx_in 436 rfl rfl
set_option maxRecDepth 20000 in
theorem wd_405 : (Cond.instanceMethod y_DV_ofAbsolutes) ∈ zx_T := zx_in 437 rfl rfl
set_option maxRecDepth 20000 in
theorem wd_406 : (Cond.selects "BigDesk$Division" y_DV_ofAbsolutes y_DV_ofAbsolutes) ∈ zx_T := zx_in 438 rfl rfl
set_option maxRecDepth 20000 in
theorem wd_407 : (Cond.code y_DV_ofAbsolutes prog_3_method_3_code (6 : Nat) (Option.none : Option FieldType)) ∈ zx_T := zx_in 439 rfl rfl
set_option maxRecDepth 20000 in
theorem wd_408 : (Cond.methodLink "BigDesk$Division" (49 : Nat) y_WH_clear) ∈ zx_T := zx_in 440 rfl rfl
set_option maxRecDepth 20000 in
theorem wd_409 : (Cond.instanceMethod y_WH_clear) ∈ zx_T := zx_in 441 rfl rfl
set_option maxRecDepth 20000 in
theorem wd_410 : (Cond.selects "BigDesk$Whole" y_WH_clear y_WH_clear) ∈ zx_T := zx_in 442 rfl rfl
set_option maxRecDepth 20000 in
theorem wd_411 : (Cond.code y_WH_clear prog_6_method_2_code (1 : Nat) (Option.none : Option FieldType)) ∈ zx_T := zx_in 443 rfl rfl
set_option maxRecDepth 20000 in
theorem wd_412 : (Cond.methodLink "BigDesk$Division" (56 : Nat) y_WH_bitsOf) ∈ zx_T := zx_in 444 rfl rfl
set_option maxRecDepth 20000 in
theorem wd_413 : (Cond.methodLink "BigDesk$Division" (60 : Nat) y_WH_becomeShiftedUp) ∈ zx_T := zx_in 445 rfl rfl
set_option maxRecDepth 20000 in
theorem wd_414 : (Cond.methodLink "BigDesk$Division" (64 : Nat) y_DV_nextLimb) ∈ zx_T := zx_in 446 rfl rfl
set_option maxRecDepth 20000 in
theorem wd_416 : (Cond.instanceMethod y_DV_nextLimb) ∈ zx_T := zx_in 448 rfl rfl
set_option maxRecDepth 20000 in
theorem wd_417 : (Cond.code y_DV_nextLimb prog_3_method_4_code (4 : Nat) (Option.some FieldType.long)) ∈ zx_T := zx_in 449 rfl rfl
set_option maxRecDepth 20000 in
theorem wd_418 : (Cond.methodLink "BigDesk$Division" (81 : Nat) y_DV_guessLimb) ∈ zx_T := zx_in 450 rfl rfl
set_option maxRecDepth 20000 in
theorem wd_420 : (Cond.instanceMethod y_DV_guessLimb) ∈ zx_T := zx_in 452 rfl rfl
set_option maxRecDepth 20000 in
theorem wd_421 : (Cond.code y_DV_guessLimb prog_3_method_5_code (18 : Nat) (Option.some FieldType.long)) ∈ zx_T := zx_in 453 rfl rfl
set_option maxRecDepth 20000 in
theorem wd_422 : (Cond.methodLink "BigDesk$Division" (91 : Nat) y_WH_at) ∈ zx_T := zx_in 454 rfl rfl
set_option maxRecDepth 20000 in
theorem wd_423 : (Cond.constantLong "BigDesk$Division" (94 : Nat) (4294967295 : Int64)) ∈ zx_T := zx_in 455 rfl rfl
set_option maxRecDepth 20000 in
theorem wd_424 : (Cond.methodLink "BigDesk$Division" (96 : Nat) y_DV_unsignedQuotient) ∈ zx_T := zx_in 456 rfl rfl
set_option maxRecDepth 20000 in
theorem wd_425 : (Cond.static y_DV_unsignedQuotient) ∈ zx_T := zx_in 457 rfl rfl
set_option maxRecDepth 20000 in
theorem wd_426 : (Cond.code y_DV_unsignedQuotient prog_3_method_6_code (6 : Nat) (Option.some FieldType.long)) ∈ zx_T := zx_in 458 rfl rfl
set_option maxRecDepth 20000 in
theorem wd_427 : (Cond.constantLong "BigDesk$Division" (102 : Nat) (-9223372036854775808 : Int64)) ∈ zx_T := zx_in 459 rfl rfl
set_option maxRecDepth 20000 in
theorem wd_428 : (Cond.methodLink "BigDesk$Division" (84 : Nat) y_DV_takeAway) ∈ zx_T := zx_in 460 rfl rfl
set_option maxRecDepth 20000 in
theorem wd_430 : (Cond.instanceMethod y_DV_takeAway) ∈ zx_T := zx_in 462 rfl rfl
set_option maxRecDepth 20000 in
theorem wd_431 : (Cond.code y_DV_takeAway prog_3_method_7_code (14 : Nat) (Option.some FieldType.boolean)) ∈ zx_T := zx_in 463 rfl rfl
set_option maxRecDepth 20000 in
theorem wd_432 : (Cond.methodLink "BigDesk$Division" (88 : Nat) y_DV_putBack) ∈ zx_T := zx_in 464 rfl rfl
set_option maxRecDepth 20000 in
theorem wd_434 : (Cond.instanceMethod y_DV_putBack) ∈ zx_T := zx_in 466 rfl rfl
set_option maxRecDepth 20000 in
theorem wd_435 : (Cond.code y_DV_putBack prog_3_method_8_code (9 : Nat) (Option.none : Option FieldType)) ∈ zx_T := zx_in 467 rfl rfl
set_option maxRecDepth 20000 in
theorem wd_436 : (Cond.methodLink "BigDesk$Division" (68 : Nat) y_JM_max) ∈ zx_T := zx_in 468 rfl rfl
set_option maxRecDepth 20000 in
theorem wd_437 : (Cond.methodLink "BigDesk$Division" (74 : Nat) y_WH_settle) ∈ zx_T := zx_in 469 rfl rfl
set_option maxRecDepth 20000 in
theorem wd_438 : (Cond.methodLink "BigDesk$Division" (78 : Nat) y_WH_becomeShiftedDown) ∈ zx_T := zx_in 470 rfl rfl
set_option maxRecDepth 20000 in
theorem wd_439 : (Cond.methodLink "BigDesk$Division" (36 : Nat) y_WH_addOne) ∈ zx_T := zx_in 471 rfl rfl
set_option maxRecDepth 20000 in
theorem wd_440 : (Cond.methodLink "BigDesk$Division" (39 : Nat) y_SU_differenceOfAbsolutes) ∈ zx_T := zx_in 472 rfl rfl
set_option maxRecDepth 20000 in
theorem wd_441 : (Cond.methodLink "BigDesk$Division" (45 : Nat) y_WH_markSign) ∈ zx_T := zx_in 473 rfl rfl
set_option maxRecDepth 20000 in
theorem wd_442 : (Cond.methodLink "BigDeskLaw" (136 : Nat) y_LW_gcd) ∈ zx_T := zx_in 474 rfl rfl
set_option maxRecDepth 20000 in
theorem wd_443 : (Cond.static y_LW_gcd) ∈ zx_T := zx_in 475 rfl rfl
set_option maxRecDepth 20000 in
theorem wd_444 : (Cond.codeWith y_LW_gcd method_12_code (5 : Nat) (Option.some FieldType.int) [((0 : Nat), (7 : Nat), (10 : Nat), (13 : Nat))]) ∈ zx_T := zx_in 476 rfl rfl
set_option maxRecDepth 20000 in
theorem wd_445 : (Cond.methodLink "BigDeskLaw" (47 : Nat) y_BD_gcd) ∈ zx_T := zx_in 477 rfl rfl
set_option maxRecDepth 20000 in
theorem wd_446 : (Cond.instanceMethod y_BD_gcd) ∈ zx_T := zx_in 478 rfl rfl
set_option maxRecDepth 20000 in
theorem wd_447 : (Cond.selects "BigDesk" y_BD_gcd y_BD_gcd) ∈ zx_T := zx_in 479 rfl rfl
set_option maxRecDepth 20000 in
theorem wd_448 : (Cond.code y_BD_gcd prog_1_method_11_code (5 : Nat) (Option.none : Option FieldType)) ∈ zx_T := zx_in 480 rfl rfl
set_option maxRecDepth 20000 in
theorem wd_449 : (Cond.methodLink "BigDesk" (135 : Nat) y_CD_greatest) ∈ zx_T := zx_in 481 rfl rfl
set_option maxRecDepth 20000 in
theorem wd_450 : (Cond.instanceMethod y_CD_greatest) ∈ zx_T := zx_in 482 rfl rfl
set_option maxRecDepth 20000 in
theorem wd_451 : (Cond.selects "BigDesk$CommonDivisor" y_CD_greatest y_CD_greatest) ∈ zx_T := zx_in 483 rfl rfl
set_option maxRecDepth 20000 in
theorem wd_452 : (Cond.code y_CD_greatest prog_2_method_2_code (5 : Nat) (Option.some (FieldType.object "BigDesk$Whole"))) ∈ zx_T := zx_in 484 rfl rfl
set_option maxRecDepth 20000 in
theorem wd_453 : (Cond.methodLink "BigDesk$CommonDivisor" (21 : Nat) y_WH_become) ∈ zx_T := zx_in 485 rfl rfl
set_option maxRecDepth 20000 in
theorem wd_454 : (Cond.methodLink "BigDesk$CommonDivisor" (25 : Nat) y_SU_orderOfAbsolutes) ∈ zx_T := zx_in 486 rfl rfl
set_option maxRecDepth 20000 in
theorem wd_455 : (Cond.methodLink "BigDesk$CommonDivisor" (31 : Nat) y_CD_exchange) ∈ zx_T := zx_in 487 rfl rfl
set_option maxRecDepth 20000 in
theorem wd_457 : (Cond.instanceMethod y_CD_exchange) ∈ zx_T := zx_in 489 rfl rfl
set_option maxRecDepth 20000 in
theorem wd_458 : (Cond.code y_CD_exchange prog_2_method_3_code (2 : Nat) (Option.none : Option FieldType)) ∈ zx_T := zx_in 490 rfl rfl
set_option maxRecDepth 20000 in
theorem wd_459 : (Cond.methodLink "BigDesk$CommonDivisor" (34 : Nat) y_WH_markSign) ∈ zx_T := zx_in 491 rfl rfl
set_option maxRecDepth 20000 in
theorem wd_460 : (Cond.methodLink "BigDesk$CommonDivisor" (42 : Nat) y_CD_foretell) ∈ zx_T := zx_in 492 rfl rfl
set_option maxRecDepth 20000 in
theorem wd_462 : (Cond.instanceMethod y_CD_foretell) ∈ zx_T := zx_in 494 rfl rfl
set_option maxRecDepth 20000 in
theorem wd_463 : (Cond.code y_CD_foretell prog_2_method_4_code (23 : Nat) (Option.some FieldType.boolean)) ∈ zx_T := zx_in 495 rfl rfl
set_option maxRecDepth 20000 in
theorem wd_464 : (Cond.methodLink "BigDesk$CommonDivisor" (58 : Nat) y_WH_bits) ∈ zx_T := zx_in 496 rfl rfl
set_option maxRecDepth 20000 in
theorem wd_465 : (Cond.methodLink "BigDesk$CommonDivisor" (62 : Nat) y_JM_max) ∈ zx_T := zx_in 497 rfl rfl
set_option maxRecDepth 20000 in
theorem wd_466 : (Cond.methodLink "BigDesk$CommonDivisor" (68 : Nat) y_WH_longFrom) ∈ zx_T := zx_in 498 rfl rfl
set_option maxRecDepth 20000 in
theorem wd_467 : (Cond.instanceMethod y_WH_longFrom) ∈ zx_T := zx_in 499 rfl rfl
set_option maxRecDepth 20000 in
theorem wd_468 : (Cond.selects "BigDesk$Whole" y_WH_longFrom y_WH_longFrom) ∈ zx_T := zx_in 500 rfl rfl
set_option maxRecDepth 20000 in
theorem wd_469 : (Cond.code y_WH_longFrom prog_6_method_15_code (6 : Nat) (Option.some FieldType.long)) ∈ zx_T := zx_in 501 rfl rfl
set_option maxRecDepth 20000 in
theorem wd_470 : (Cond.constantLong "BigDesk$CommonDivisor" (72 : Nat) (2147483647 : Int64)) ∈ zx_T := zx_in 502 rfl rfl
set_option maxRecDepth 20000 in
theorem wd_471 : (Cond.methodLink "BigDesk$CommonDivisor" (74 : Nat) y_JM_abs) ∈ zx_T := zx_in 503 rfl rfl
set_option maxRecDepth 20000 in
theorem wd_472 : (Cond.static y_JM_abs) ∈ zx_T := zx_in 504 rfl rfl
set_option maxRecDepth 20000 in
theorem wd_473 : (Cond.code y_JM_abs prog_14_method_61_code (2 : Nat) (Option.some FieldType.long)) ∈ zx_T := zx_in 505 rfl rfl
set_option maxRecDepth 20000 in
theorem wd_474 : (Cond.methodLink "BigDesk$CommonDivisor" (46 : Nat) y_CD_combine) ∈ zx_T := zx_in 506 rfl rfl
set_option maxRecDepth 20000 in
theorem wd_476 : (Cond.instanceMethod y_CD_combine) ∈ zx_T := zx_in 508 rfl rfl
set_option maxRecDepth 20000 in
theorem wd_477 : (Cond.code y_CD_combine prog_2_method_5_code (13 : Nat) (Option.none : Option FieldType)) ∈ zx_T := zx_in 509 rfl rfl
set_option maxRecDepth 20000 in
theorem wd_478 : (Cond.constantLong "BigDesk$CommonDivisor" (95 : Nat) (4294967295 : Int64)) ∈ zx_T := zx_in 510 rfl rfl
set_option maxRecDepth 20000 in
theorem wd_479 : (Cond.methodLink "BigDesk$CommonDivisor" (97 : Nat) y_WH_settle) ∈ zx_T := zx_in 511 rfl rfl
set_option maxRecDepth 20000 in
theorem wd_480 : (Cond.methodLink "BigDesk$CommonDivisor" (49 : Nat) y_DV_ofAbsolutes) ∈ zx_T := zx_in 512 rfl rfl
set_option maxRecDepth 20000 in
theorem wd_481 : (Cond.methodLink "BigDeskLaw" (139 : Nat) y_LW_negate) ∈ zx_T := zx_in 513 rfl rfl
set_option maxRecDepth 20000 in
theorem wd_482 : (Cond.static y_LW_negate) ∈ zx_T := zx_in 514 rfl rfl
set_option maxRecDepth 20000 in
theorem wd_483 : (Cond.codeWith y_LW_negate method_13_code (4 : Nat) (Option.some FieldType.int) [((0 : Nat), (6 : Nat), (9 : Nat), (13 : Nat))]) ∈ zx_T := zx_in 515 rfl rfl
set_option maxRecDepth 20000 in
theorem wd_484 : (Cond.methodLink "BigDeskLaw" (50 : Nat) y_BD_negate) ∈ zx_T := zx_in 516 rfl rfl
set_option maxRecDepth 20000 in
theorem wd_485 : (Cond.instanceMethod y_BD_negate) ∈ zx_T := zx_in 517 rfl rfl
set_option maxRecDepth 20000 in
theorem wd_486 : (Cond.selects "BigDesk" y_BD_negate y_BD_negate) ∈ zx_T := zx_in 518 rfl rfl
set_option maxRecDepth 20000 in
theorem wd_487 : (Cond.code y_BD_negate prog_1_method_12_code (6 : Nat) (Option.none : Option FieldType)) ∈ zx_T := zx_in 519 rfl rfl
set_option maxRecDepth 20000 in
theorem wd_488 : (Cond.methodLink "BigDeskLaw" (142 : Nat) y_LW_compare) ∈ zx_T := zx_in 520 rfl rfl
set_option maxRecDepth 20000 in
theorem wd_489 : (Cond.static y_LW_compare) ∈ zx_T := zx_in 521 rfl rfl
set_option maxRecDepth 20000 in
theorem wd_490 : (Cond.codeWith y_LW_compare method_14_code (5 : Nat) (Option.some FieldType.int) [((0 : Nat), (10 : Nat), (13 : Nat), (13 : Nat))]) ∈ zx_T := zx_in 522 rfl rfl
set_option maxRecDepth 20000 in
theorem wd_491 : (Cond.methodLink "BigDeskLaw" (53 : Nat) y_BD_compare) ∈ zx_T := zx_in 523 rfl rfl
set_option maxRecDepth 20000 in
theorem wd_492 : (Cond.instanceMethod y_BD_compare) ∈ zx_T := zx_in 524 rfl rfl
set_option maxRecDepth 20000 in
theorem wd_493 : (Cond.selects "BigDesk" y_BD_compare y_BD_compare) ∈ zx_T := zx_in 525 rfl rfl
set_option maxRecDepth 20000 in
theorem wd_494 : (Cond.code y_BD_compare prog_1_method_13_code (6 : Nat) (Option.some FieldType.int)) ∈ zx_T := zx_in 526 rfl rfl
set_option maxRecDepth 20000 in
theorem wd_495 : (Cond.methodLink "BigDesk" (139 : Nat) y_SU_orderOfAbsolutes) ∈ zx_T := zx_in 527 rfl rfl
set_option maxRecDepth 20000 in
theorem wd_496 : (Cond.methodLink "BigDeskLaw" (146 : Nat) y_LW_rest) ∈ zx_T := zx_in 528 rfl rfl
set_option maxRecDepth 20000 in
theorem wd_497 : (Cond.static y_LW_rest) ∈ zx_T := zx_in 529 rfl rfl
set_option maxRecDepth 20000 in
theorem wd_498 : (Cond.codeWith y_LW_rest method_15_code (6 : Nat) (Option.some FieldType.int) [((0 : Nat), (10 : Nat), (13 : Nat), (13 : Nat))]) ∈ zx_T := zx_in 530 rfl rfl
set_option maxRecDepth 20000 in
theorem wd_499 : (Cond.methodLink "BigDeskLaw" (57 : Nat) y_BD_rest) ∈ zx_T := zx_in 531 rfl rfl
set_option maxRecDepth 20000 in
theorem wd_500 : (Cond.instanceMethod y_BD_rest) ∈ zx_T := zx_in 532 rfl rfl
set_option maxRecDepth 20000 in
theorem wd_501 : (Cond.selects "BigDesk" y_BD_rest y_BD_rest) ∈ zx_T := zx_in 533 rfl rfl
set_option maxRecDepth 20000 in
theorem wd_502 : (Cond.code y_BD_rest prog_1_method_14_code (5 : Nat) (Option.some FieldType.long)) ∈ zx_T := zx_in 534 rfl rfl
set_option maxRecDepth 20000 in
theorem wd_504 : (Cond.methodLink "BigDesk" (145 : Nat) y_WH_asLong) ∈ zx_T := zx_in 536 rfl rfl
set_option maxRecDepth 20000 in
theorem wd_505 : (Cond.instanceMethod y_WH_asLong) ∈ zx_T := zx_in 537 rfl rfl
set_option maxRecDepth 20000 in
theorem wd_506 : (Cond.selects "BigDesk$Whole" y_WH_asLong y_WH_asLong) ∈ zx_T := zx_in 538 rfl rfl
set_option maxRecDepth 20000 in
theorem wd_507 : (Cond.code y_WH_asLong prog_6_method_13_code (1 : Nat) (Option.some FieldType.long)) ∈ zx_T := zx_in 539 rfl rfl
set_option maxRecDepth 20000 in
theorem wd_508 : (Cond.methodLink "BigDesk$Whole" (63 : Nat) y_WH_lowestLong) ∈ zx_T := zx_in 540 rfl rfl
set_option maxRecDepth 20000 in
theorem wd_510 : (Cond.instanceMethod y_WH_lowestLong) ∈ zx_T := zx_in 542 rfl rfl
set_option maxRecDepth 20000 in
theorem wd_511 : (Cond.code y_WH_lowestLong prog_6_method_14_code (1 : Nat) (Option.some FieldType.long)) ∈ zx_T := zx_in 543 rfl rfl
set_option maxRecDepth 20000 in
theorem wd_512 : (Cond.methodLink "BigDeskLaw" (150 : Nat) y_LW_value) ∈ zx_T := zx_in 544 rfl rfl
set_option maxRecDepth 20000 in
theorem wd_513 : (Cond.static y_LW_value) ∈ zx_T := zx_in 545 rfl rfl
set_option maxRecDepth 20000 in
theorem wd_514 : (Cond.codeWith y_LW_value method_16_code (4 : Nat) (Option.some FieldType.int) [((0 : Nat), (8 : Nat), (11 : Nat), (13 : Nat)), ((0 : Nat), (8 : Nat), (14 : Nat), (23 : Nat))]) ∈ zx_T := zx_in 546 rfl rfl
set_option maxRecDepth 20000 in
theorem wd_515 : (Cond.methodLink "BigDeskLaw" (61 : Nat) y_BD_value) ∈ zx_T := zx_in 547 rfl rfl
set_option maxRecDepth 20000 in
theorem wd_516 : (Cond.instanceMethod y_BD_value) ∈ zx_T := zx_in 548 rfl rfl
set_option maxRecDepth 20000 in
theorem wd_517 : (Cond.selects "BigDesk" y_BD_value y_BD_value) ∈ zx_T := zx_in 549 rfl rfl
set_option maxRecDepth 20000 in
theorem wd_518 : (Cond.code y_BD_value prog_1_method_15_code (3 : Nat) (Option.some FieldType.long)) ∈ zx_T := zx_in 550 rfl rfl
set_option maxRecDepth 20000 in
theorem wd_519 : (Cond.methodLink "BigDesk" (149 : Nat) y_WH_isLong) ∈ zx_T := zx_in 551 rfl rfl
set_option maxRecDepth 20000 in
theorem wd_520 : (Cond.instanceMethod y_WH_isLong) ∈ zx_T := zx_in 552 rfl rfl
set_option maxRecDepth 20000 in
theorem wd_521 : (Cond.selects "BigDesk$Whole" y_WH_isLong y_WH_isLong) ∈ zx_T := zx_in 553 rfl rfl
set_option maxRecDepth 20000 in
theorem wd_522 : (Cond.code y_WH_isLong prog_6_method_12_code (3 : Nat) (Option.some FieldType.boolean)) ∈ zx_T := zx_in 554 rfl rfl
set_option maxRecDepth 20000 in
theorem wd_523 : (Cond.constantLong "BigDesk$Whole" (67 : Nat) (-9223372036854775808 : Int64)) ∈ zx_T := zx_in 555 rfl rfl
set_option maxRecDepth 20000 in
theorem wd_525 : (Cond.methodLink "BigDeskLaw" (154 : Nat) y_LW_limb) ∈ zx_T := zx_in 557 rfl rfl
set_option maxRecDepth 20000 in
theorem wd_526 : (Cond.static y_LW_limb) ∈ zx_T := zx_in 558 rfl rfl
set_option maxRecDepth 20000 in
theorem wd_527 : (Cond.codeWith y_LW_limb method_17_code (5 : Nat) (Option.some FieldType.int) [((0 : Nat), (9 : Nat), (12 : Nat), (13 : Nat))]) ∈ zx_T := zx_in 559 rfl rfl
set_option maxRecDepth 20000 in
theorem wd_528 : (Cond.methodLink "BigDeskLaw" (65 : Nat) y_BD_limb) ∈ zx_T := zx_in 560 rfl rfl
set_option maxRecDepth 20000 in
theorem wd_529 : (Cond.instanceMethod y_BD_limb) ∈ zx_T := zx_in 561 rfl rfl
set_option maxRecDepth 20000 in
theorem wd_530 : (Cond.selects "BigDesk" y_BD_limb y_BD_limb) ∈ zx_T := zx_in 562 rfl rfl
set_option maxRecDepth 20000 in
theorem wd_531 : (Cond.code y_BD_limb prog_1_method_16_code (4 : Nat) (Option.some FieldType.long)) ∈ zx_T := zx_in 563 rfl rfl
set_option maxRecDepth 20000 in
theorem wd_533 : (Cond.methodLink "BigDesk" (157 : Nat) y_WH_at) ∈ zx_T := zx_in 565 rfl rfl
set_option maxRecDepth 20000 in
theorem wd_534 : (Cond.methodLink "BigDeskLaw" (157 : Nat) y_LW_look) ∈ zx_T := zx_in 566 rfl rfl
set_option maxRecDepth 20000 in
theorem wd_535 : (Cond.static y_LW_look) ∈ zx_T := zx_in 567 rfl rfl
set_option maxRecDepth 20000 in
theorem wd_536 : (Cond.codeWith y_LW_look method_18_code (5 : Nat) (Option.some FieldType.int) [((0 : Nat), (10 : Nat), (13 : Nat), (13 : Nat))]) ∈ zx_T := zx_in 568 rfl rfl
set_option maxRecDepth 20000 in
theorem wd_537 : (Cond.methodLink "BigDeskLaw" (69 : Nat) y_BD_look) ∈ zx_T := zx_in 569 rfl rfl
set_option maxRecDepth 20000 in
theorem wd_538 : (Cond.instanceMethod y_BD_look) ∈ zx_T := zx_in 570 rfl rfl
set_option maxRecDepth 20000 in
theorem wd_539 : (Cond.selects "BigDesk" y_BD_look y_BD_look) ∈ zx_T := zx_in 571 rfl rfl
set_option maxRecDepth 20000 in
theorem wd_540 : (Cond.code y_BD_look prog_1_method_17_code (4 : Nat) (Option.some FieldType.int)) ∈ zx_T := zx_in 572 rfl rfl
set_option maxRecDepth 20000 in
theorem wd_542 : (Cond.methodLink "BigDeskLaw" (160 : Nat) y_LW_feed) ∈ zx_T := zx_in 574 rfl rfl
set_option maxRecDepth 20000 in
theorem wd_543 : (Cond.static y_LW_feed) ∈ zx_T := zx_in 575 rfl rfl
set_option maxRecDepth 20000 in
theorem wd_544 : (Cond.codeWith y_LW_feed method_19_code (6 : Nat) (Option.some FieldType.int) [((0 : Nat), (11 : Nat), (14 : Nat), (13 : Nat)), ((0 : Nat), (11 : Nat), (18 : Nat), (23 : Nat))]) ∈ zx_T := zx_in 576 rfl rfl
set_option maxRecDepth 20000 in
theorem wd_545 : (Cond.methodLink "BigDeskLaw" (72 : Nat) y_BD_feed) ∈ zx_T := zx_in 577 rfl rfl
set_option maxRecDepth 20000 in
theorem wd_546 : (Cond.instanceMethod y_BD_feed) ∈ zx_T := zx_in 578 rfl rfl
set_option maxRecDepth 20000 in
theorem wd_547 : (Cond.selects "BigDesk" y_BD_feed y_BD_feed) ∈ zx_T := zx_in 579 rfl rfl
set_option maxRecDepth 20000 in
theorem wd_548 : (Cond.code y_BD_feed prog_1_method_18_code (5 : Nat) (Option.some FieldType.int)) ∈ zx_T := zx_in 580 rfl rfl
set_option maxRecDepth 20000 in
theorem wd_551 : (Cond.methodLink "BigDeskLaw" (163 : Nat) y_LW_read) ∈ zx_T := zx_in 583 rfl rfl
set_option maxRecDepth 20000 in
theorem wd_552 : (Cond.static y_LW_read) ∈ zx_T := zx_in 584 rfl rfl
set_option maxRecDepth 20000 in
theorem wd_553 : (Cond.codeWith y_LW_read method_20_code (4 : Nat) (Option.some FieldType.int) [((0 : Nat), (16 : Nat), (19 : Nat), (13 : Nat))]) ∈ zx_T := zx_in 585 rfl rfl
set_option maxRecDepth 20000 in
theorem wd_554 : (Cond.methodLink "BigDeskLaw" (76 : Nat) y_BD_read) ∈ zx_T := zx_in 586 rfl rfl
set_option maxRecDepth 20000 in
theorem wd_555 : (Cond.instanceMethod y_BD_read) ∈ zx_T := zx_in 587 rfl rfl
set_option maxRecDepth 20000 in
theorem wd_556 : (Cond.selects "BigDesk" y_BD_read y_BD_read) ∈ zx_T := zx_in 588 rfl rfl
set_option maxRecDepth 20000 in
theorem wd_557 : (Cond.code y_BD_read prog_1_method_19_code (4 : Nat) (Option.some FieldType.boolean)) ∈ zx_T := zx_in 589 rfl rfl
set_option maxRecDepth 20000 in
theorem wd_558 : (Cond.methodLink "BigDesk" (167 : Nat) y_TX_numberOf) ∈ zx_T := zx_in 590 rfl rfl
set_option maxRecDepth 20000 in
theorem wd_559 : (Cond.static y_TX_numberOf) ∈ zx_T := zx_in 591 rfl rfl
set_option maxRecDepth 20000 in
theorem wd_560 : (Cond.code y_TX_numberOf prog_5_method_3_code (7 : Nat) (Option.some FieldType.boolean)) ∈ zx_T := zx_in 592 rfl rfl
set_option maxRecDepth 20000 in
theorem wd_561 : (Cond.methodLink "BigDesk$Texts" (9 : Nat) y_TX_isText) ∈ zx_T := zx_in 593 rfl rfl
set_option maxRecDepth 20000 in
theorem wd_562 : (Cond.static y_TX_isText) ∈ zx_T := zx_in 594 rfl rfl
set_option maxRecDepth 20000 in
theorem wd_563 : (Cond.code y_TX_isText prog_5_method_2_code (4 : Nat) (Option.some FieldType.boolean)) ∈ zx_T := zx_in 595 rfl rfl
set_option maxRecDepth 20000 in
theorem wd_564 : (Cond.methodLink "BigDesk$Texts" (15 : Nat) y_WH_clear) ∈ zx_T := zx_in 596 rfl rfl
set_option maxRecDepth 20000 in
theorem wd_565 : (Cond.constantLong "BigDesk$Texts" (20 : Nat) (10 : Int64)) ∈ zx_T := zx_in 597 rfl rfl
set_option maxRecDepth 20000 in
theorem wd_566 : (Cond.constantLong "BigDesk$Texts" (22 : Nat) (48 : Int64)) ∈ zx_T := zx_in 598 rfl rfl
set_option maxRecDepth 20000 in
theorem wd_567 : (Cond.methodLink "BigDesk$Texts" (24 : Nat) y_WH_appendChunk) ∈ zx_T := zx_in 599 rfl rfl
set_option maxRecDepth 20000 in
theorem wd_568 : (Cond.instanceMethod y_WH_appendChunk) ∈ zx_T := zx_in 600 rfl rfl
set_option maxRecDepth 20000 in
theorem wd_569 : (Cond.selects "BigDesk$Whole" y_WH_appendChunk y_WH_appendChunk) ∈ zx_T := zx_in 601 rfl rfl
set_option maxRecDepth 20000 in
theorem wd_570 : (Cond.code y_WH_appendChunk prog_6_method_17_code (8 : Nat) (Option.none : Option FieldType)) ∈ zx_T := zx_in 602 rfl rfl
set_option maxRecDepth 20000 in
theorem wd_571 : (Cond.constantLong "BigDesk$Whole" (69 : Nat) (1000000000 : Int64)) ∈ zx_T := zx_in 603 rfl rfl
set_option maxRecDepth 20000 in
theorem wd_572 : (Cond.methodLink "BigDesk$Texts" (28 : Nat) y_WH_markSign) ∈ zx_T := zx_in 604 rfl rfl
set_option maxRecDepth 20000 in
theorem wd_573 : (Cond.methodLink "BigDeskLaw" (166 : Nat) y_LW_write) ∈ zx_T := zx_in 605 rfl rfl
set_option maxRecDepth 20000 in
theorem wd_574 : (Cond.static y_LW_write) ∈ zx_T := zx_in 606 rfl rfl
set_option maxRecDepth 20000 in
theorem wd_575 : (Cond.codeWith y_LW_write method_21_code (4 : Nat) (Option.some FieldType.int) [((0 : Nat), (9 : Nat), (12 : Nat), (13 : Nat))]) ∈ zx_T := zx_in 607 rfl rfl
set_option maxRecDepth 20000 in
theorem wd_576 : (Cond.methodLink "BigDeskLaw" (80 : Nat) y_BD_write) ∈ zx_T := zx_in 608 rfl rfl
set_option maxRecDepth 20000 in
theorem wd_577 : (Cond.instanceMethod y_BD_write) ∈ zx_T := zx_in 609 rfl rfl
set_option maxRecDepth 20000 in
theorem wd_578 : (Cond.selects "BigDesk" y_BD_write y_BD_write) ∈ zx_T := zx_in 610 rfl rfl
set_option maxRecDepth 20000 in
theorem wd_579 : (Cond.code y_BD_write prog_1_method_20_code (2 : Nat) (Option.some FieldType.int)) ∈ zx_T := zx_in 611 rfl rfl
set_option maxRecDepth 20000 in
theorem wd_580 : (Cond.methodLink "BigDesk" (173 : Nat) y_TX_textOf) ∈ zx_T := zx_in 612 rfl rfl
set_option maxRecDepth 20000 in
theorem wd_581 : (Cond.static y_TX_textOf) ∈ zx_T := zx_in 613 rfl rfl
set_option maxRecDepth 20000 in
theorem wd_582 : (Cond.code y_TX_textOf prog_5_method_4_code (5 : Nat) (Option.some FieldType.int)) ∈ zx_T := zx_in 614 rfl rfl
set_option maxRecDepth 20000 in
theorem wd_583 : (Cond.methodLink "BigDesk$Texts" (40 : Nat) y_TX_layChunk) ∈ zx_T := zx_in 615 rfl rfl
set_option maxRecDepth 20000 in
theorem wd_584 : (Cond.static y_TX_layChunk) ∈ zx_T := zx_in 616 rfl rfl
set_option maxRecDepth 20000 in
theorem wd_585 : (Cond.code y_TX_layChunk prog_5_method_5_code (7 : Nat) (Option.some FieldType.int)) ∈ zx_T := zx_in 617 rfl rfl
set_option maxRecDepth 20000 in
theorem wd_586 : (Cond.methodLink "BigDesk$Texts" (54 : Nat) y_WH_takeChunk) ∈ zx_T := zx_in 618 rfl rfl
set_option maxRecDepth 20000 in
theorem wd_587 : (Cond.instanceMethod y_WH_takeChunk) ∈ zx_T := zx_in 619 rfl rfl
set_option maxRecDepth 20000 in
theorem wd_588 : (Cond.selects "BigDesk$Whole" y_WH_takeChunk y_WH_takeChunk) ∈ zx_T := zx_in 620 rfl rfl
set_option maxRecDepth 20000 in
theorem wd_589 : (Cond.code y_WH_takeChunk prog_6_method_18_code (6 : Nat) (Option.some FieldType.long)) ∈ zx_T := zx_in 621 rfl rfl
set_option maxRecDepth 20000 in
theorem wd_590 : (Cond.methodLink "BigDesk$Texts" (44 : Nat) y_TX_layByte) ∈ zx_T := zx_in 622 rfl rfl
set_option maxRecDepth 20000 in
theorem wd_591 : (Cond.static y_TX_layByte) ∈ zx_T := zx_in 623 rfl rfl
set_option maxRecDepth 20000 in
theorem wd_592 : (Cond.code y_TX_layByte prog_5_method_6_code (3 : Nat) (Option.some FieldType.int)) ∈ zx_T := zx_in 624 rfl rfl
set_option maxRecDepth 20000 in
theorem wd_593 : (Cond.methodLink "BigDesk$Texts" (48 : Nat) (⟨"java/lang/System", "arraycopy", "(Ljava/lang/Object;ILjava/lang/Object;II)V"⟩ : MethodName)) ∈ zx_T := zx_in 625 rfl rfl
set_option maxRecDepth 20000 in
theorem wd_594 : (Cond.methodLink "BigDeskLaw" (169 : Nat) y_LW_out) ∈ zx_T := zx_in 626 rfl rfl
set_option maxRecDepth 20000 in
theorem wd_595 : (Cond.static y_LW_out) ∈ zx_T := zx_in 627 rfl rfl
set_option maxRecDepth 20000 in
theorem wd_596 : (Cond.codeWith y_LW_out method_22_code (4 : Nat) (Option.some FieldType.int) [((0 : Nat), (8 : Nat), (11 : Nat), (87 : Nat))]) ∈ zx_T := zx_in 628 rfl rfl
set_option maxRecDepth 20000 in
theorem wd_597 : (Cond.classLink "BigDeskLaw" (87 : Nat) "java/util/NoSuchElementException") ∈ zx_T := zx_in 629 rfl rfl
set_option maxRecDepth 20000 in
theorem wd_598 : (Cond.methodLink "BigDeskLaw" (84 : Nat) y_BD_out) ∈ zx_T := zx_in 630 rfl rfl
set_option maxRecDepth 20000 in
theorem wd_599 : (Cond.instanceMethod y_BD_out) ∈ zx_T := zx_in 631 rfl rfl
set_option maxRecDepth 20000 in
theorem wd_600 : (Cond.selects "BigDesk" y_BD_out y_BD_out) ∈ zx_T := zx_in 632 rfl rfl
set_option maxRecDepth 20000 in
theorem wd_601 : (Cond.code y_BD_out prog_1_method_21_code (6 : Nat) (Option.some FieldType.long)) ∈ zx_T := zx_in 633 rfl rfl
set_option maxRecDepth 20000 in
theorem wd_602 : (Cond.classLink "BigDesk" (177 : Nat) "java/util/NoSuchElementException") ∈ zx_T := zx_in 634 rfl rfl
set_option maxRecDepth 20000 in
theorem wd_603 : (Cond.instantiable "java/util/NoSuchElementException" (6 : Nat)) ∈ zx_T := zx_in 635 rfl rfl
set_option maxRecDepth 20000 in
theorem wd_605 : (Cond.selects "java/util/NoSuchElementException" (⟨"java/lang/Throwable", "fillInStackTrace", "(I)Ljava/lang/Throwable;"⟩ : MethodName) (⟨"java/lang/Throwable", "fillInStackTrace", "(I)Ljava/lang/Throwable;"⟩ : MethodName)) ∈ zx_T := zx_in 637 rfl rfl
set_option maxRecDepth 20000 in
theorem wd_606 : (Cond.lays "java/util/NoSuchElementException" "java/lang/Throwable" "cause" "Ljava/lang/Throwable;") ∈ zx_T := zx_in 638 rfl rfl
set_option maxRecDepth 20000 in
theorem wd_607 : (Cond.lays "java/util/NoSuchElementException" "java/lang/Throwable" "stackTrace" "[Ljava/lang/StackTraceElement;") ∈ zx_T := zx_in 639 rfl rfl
set_option maxRecDepth 20000 in
theorem wd_608 : (Cond.lays "java/util/NoSuchElementException" "java/lang/Throwable" "suppressedExceptions" "Ljava/util/List;") ∈ zx_T := zx_in 640 rfl rfl
set_option maxRecDepth 20000 in
theorem wd_609 : (Cond.lays "java/util/NoSuchElementException" "java/lang/Throwable" "detailMessage" "Ljava/lang/String;") ∈ zx_T := zx_in 641 rfl rfl
set_option maxRecDepth 20000 in
theorem wd_610 : (Cond.lays "java/util/NoSuchElementException" "java/lang/Throwable" "backtrace" "Ljava/lang/Object;") ∈ zx_T := zx_in 642 rfl rfl
set_option maxRecDepth 20000 in
theorem wd_612 : (Cond.methodLink "BigDesk" (181 : Nat) (⟨"java/util/NoSuchElementException", "<init>", "(Ljava/lang/String;)V"⟩ : MethodName)) ∈ zx_T := zx_in 644 rfl rfl
set_option maxRecDepth 20000 in
theorem wd_613 : (Cond.instanceMethod (⟨"java/util/NoSuchElementException", "<init>", "(Ljava/lang/String;)V"⟩ : MethodName)) ∈ zx_T := zx_in 645 rfl rfl
set_option maxRecDepth 20000 in
theorem wd_614 : (Cond.code (⟨"java/util/NoSuchElementException", "<init>", "(Ljava/lang/String;)V"⟩ : MethodName) prog_19_method_4_code (2 : Nat) (Option.none : Option FieldType)) ∈ zx_T := zx_in 646 rfl rfl
set_option maxRecDepth 20000 in
theorem wd_615 : (Cond.methodLink "java/util/NoSuchElementException" (13 : Nat) (⟨"java/lang/RuntimeException", "<init>", "(Ljava/lang/String;)V"⟩ : MethodName)) ∈ zx_T := zx_in 647 rfl rfl
set_option maxRecDepth 20000 in
theorem wd_616 : (Cond.lays "java/util/NoSuchElementException" "java/lang/Throwable" "depth" "I") ∈ zx_T := zx_in 648 rfl rfl
set_option maxRecDepth 20000 in
theorem wd_617 : (Cond.superclass "java/util/NoSuchElementException" "java/lang/RuntimeException") ∈ zx_T := zx_in 649 rfl rfl
set_option maxRecDepth 20000 in
theorem wd_618 : (Cond.methodLink "BigDesk" (182 : Nat) y_JM_min) ∈ zx_T := zx_in 650 rfl rfl
set_option maxRecDepth 20000 in
theorem wd_619 : (Cond.methodLink "BigDeskLaw" (172 : Nat) y_LW_text) ∈ zx_T := zx_in 651 rfl rfl
set_option maxRecDepth 20000 in
theorem wd_620 : (Cond.static y_LW_text) ∈ zx_T := zx_in 652 rfl rfl
set_option maxRecDepth 20000 in
theorem wd_621 : (Cond.codeWith y_LW_text method_23_code (4 : Nat) (Option.some FieldType.int) [((0 : Nat), (9 : Nat), (12 : Nat), (13 : Nat))]) ∈ zx_T := zx_in 653 rfl rfl
set_option maxRecDepth 20000 in
theorem wd_622 : (Cond.methodLink "BigDeskLaw" (89 : Nat) y_BD_text) ∈ zx_T := zx_in 654 rfl rfl
set_option maxRecDepth 20000 in
theorem wd_623 : (Cond.instanceMethod y_BD_text) ∈ zx_T := zx_in 655 rfl rfl
set_option maxRecDepth 20000 in
theorem wd_624 : (Cond.selects "BigDesk" y_BD_text y_BD_text) ∈ zx_T := zx_in 656 rfl rfl
set_option maxRecDepth 20000 in
theorem wd_625 : (Cond.code y_BD_text prog_1_method_22_code (2 : Nat) (Option.some FieldType.int)) ∈ zx_T := zx_in 657 rfl rfl
set_option maxRecDepth 20000 in
theorem wd_627 : (Cond.classLink "BigDeskLaw" (93 : Nat) "BigDeskModel") ∈ zx_T := zx_in 659 rfl rfl
set_option maxRecDepth 20000 in
theorem wd_628 : (Cond.instantiable "BigDeskModel" (8 : Nat)) ∈ zx_T := zx_in 660 rfl rfl
set_option maxRecDepth 20000 in
theorem wd_629 : (Cond.methodLink "BigDeskLaw" (95 : Nat) y_MO_init) ∈ zx_T := zx_in 661 rfl rfl
set_option maxRecDepth 20000 in
theorem wd_630 : (Cond.instanceMethod y_MO_init) ∈ zx_T := zx_in 662 rfl rfl
set_option maxRecDepth 20000 in
theorem wd_631 : (Cond.code y_MO_init prog_8_method_1_code (2 : Nat) (Option.none : Option FieldType)) ∈ zx_T := zx_in 663 rfl rfl
set_option maxRecDepth 20000 in
theorem wd_632 : (Cond.methodLink "BigDeskModel" (1 : Nat) (⟨"java/lang/Object", "<init>", "()V"⟩ : MethodName)) ∈ zx_T := zx_in 664 rfl rfl
set_option maxRecDepth 20000 in
theorem wd_633 : (Cond.methodLink "BigDeskModel" (25 : Nat) y_MO_setRow) ∈ zx_T := zx_in 665 rfl rfl
set_option maxRecDepth 20000 in
theorem wd_635 : (Cond.instanceMethod y_MO_setRow) ∈ zx_T := zx_in 667 rfl rfl
set_option maxRecDepth 20000 in
theorem wd_636 : (Cond.code y_MO_setRow prog_8_method_6_code (8 : Nat) (Option.none : Option FieldType)) ∈ zx_T := zx_in 668 rfl rfl
set_option maxRecDepth 20000 in
theorem wd_637 : (Cond.constantLong "BigDeskModel" (37 : Nat) (10000 : Int64)) ∈ zx_T := zx_in 669 rfl rfl
set_option maxRecDepth 20000 in
theorem wd_638 : (Cond.methodLink "BigDeskModel" (29 : Nat) y_MO_scale) ∈ zx_T := zx_in 670 rfl rfl
set_option maxRecDepth 20000 in
theorem wd_640 : (Cond.instanceMethod y_MO_scale) ∈ zx_T := zx_in 672 rfl rfl
set_option maxRecDepth 20000 in
theorem wd_641 : (Cond.code y_MO_scale prog_8_method_14_code (6 : Nat) (Option.none : Option FieldType)) ∈ zx_T := zx_in 673 rfl rfl
set_option maxRecDepth 20000 in
theorem wd_642 : (Cond.methodLink "BigDeskModel" (39 : Nat) y_MO_at) ∈ zx_T := zx_in 674 rfl rfl
set_option maxRecDepth 20000 in
theorem wd_644 : (Cond.instanceMethod y_MO_at) ∈ zx_T := zx_in 676 rfl rfl
set_option maxRecDepth 20000 in
theorem wd_645 : (Cond.code y_MO_at prog_8_method_8_code (3 : Nat) (Option.some FieldType.int)) ∈ zx_T := zx_in 677 rfl rfl
set_option maxRecDepth 20000 in
theorem wd_646 : (Cond.fieldLink "BigDeskModel" (33 : Nat) "BigDeskModel" "thrown" "I") ∈ zx_T := zx_in 678 rfl rfl
set_option maxRecDepth 20000 in
theorem wd_647 : (Cond.fieldLink "BigDeskModel" (7 : Nat) "BigDeskModel" "digit" "[I") ∈ zx_T := zx_in 679 rfl rfl
set_option maxRecDepth 20000 in
theorem wd_648 : (Cond.fieldLink "BigDeskModel" (13 : Nat) "BigDeskModel" "size" "[I") ∈ zx_T := zx_in 680 rfl rfl
set_option maxRecDepth 20000 in
theorem wd_649 : (Cond.fieldLink "BigDeskModel" (16 : Nat) "BigDeskModel" "sign" "[I") ∈ zx_T := zx_in 681 rfl rfl
set_option maxRecDepth 20000 in
theorem wd_650 : (Cond.fieldLink "BigDeskModel" (19 : Nat) "BigDeskModel" "tape" "[I") ∈ zx_T := zx_in 682 rfl rfl
set_option maxRecDepth 20000 in
theorem wd_651 : (Cond.fieldLink "BigDeskModel" (120 : Nat) "BigDeskModel" "taped" "I") ∈ zx_T := zx_in 683 rfl rfl
set_option maxRecDepth 20000 in
theorem wd_652 : (Cond.fieldLink "BigDeskModel" (22 : Nat) "BigDeskModel" "text" "[I") ∈ zx_T := zx_in 684 rfl rfl
set_option maxRecDepth 20000 in
theorem wd_653 : (Cond.fieldLink "BigDeskModel" (127 : Nat) "BigDeskModel" "written" "I") ∈ zx_T := zx_in 685 rfl rfl
set_option maxRecDepth 20000 in
theorem wd_654 : (Cond.lays "BigDeskModel" "BigDeskModel" "thrown" "I") ∈ zx_T := zx_in 686 rfl rfl
set_option maxRecDepth 20000 in
theorem wd_655 : (Cond.soleField "BigDeskModel" "thrown") ∈ zx_T := zx_in 687 rfl rfl
set_option maxRecDepth 20000 in
theorem wd_656 : (Cond.laysFinal "BigDeskModel" "BigDeskModel" "digit" "[I") ∈ zx_T := zx_in 688 rfl rfl
set_option maxRecDepth 20000 in
theorem wd_657 : (Cond.soleField "BigDeskModel" "digit") ∈ zx_T := zx_in 689 rfl rfl
set_option maxRecDepth 20000 in
theorem wd_658 : (Cond.laysFinal "BigDeskModel" "BigDeskModel" "size" "[I") ∈ zx_T := zx_in 690 rfl rfl
set_option maxRecDepth 20000 in
theorem wd_659 : (Cond.soleField "BigDeskModel" "size") ∈ zx_T := zx_in 691 rfl rfl
set_option maxRecDepth 20000 in
theorem wd_660 : (Cond.laysFinal "BigDeskModel" "BigDeskModel" "sign" "[I") ∈ zx_T := zx_in 692 rfl rfl
set_option maxRecDepth 20000 in
theorem wd_661 : (Cond.soleField "BigDeskModel" "sign") ∈ zx_T := zx_in 693 rfl rfl
set_option maxRecDepth 20000 in
theorem wd_662 : (Cond.laysFinal "BigDeskModel" "BigDeskModel" "tape" "[I") ∈ zx_T := zx_in 694 rfl rfl
set_option maxRecDepth 20000 in
theorem wd_663 : (Cond.soleField "BigDeskModel" "tape") ∈ zx_T := zx_in 695 rfl rfl
set_option maxRecDepth 20000 in
theorem wd_664 : (Cond.lays "BigDeskModel" "BigDeskModel" "taped" "I") ∈ zx_T := zx_in 696 rfl rfl
set_option maxRecDepth 20000 in
theorem wd_665 : (Cond.soleField "BigDeskModel" "taped") ∈ zx_T := zx_in 697 rfl rfl
set_option maxRecDepth 20000 in
theorem wd_666 : (Cond.laysFinal "BigDeskModel" "BigDeskModel" "text" "[I") ∈ zx_T := zx_in 698 rfl rfl
set_option maxRecDepth 20000 in
theorem wd_667 : (Cond.soleField "BigDeskModel" "text") ∈ zx_T := zx_in 699 rfl rfl
set_option maxRecDepth 20000 in
theorem wd_668 : (Cond.lays "BigDeskModel" "BigDeskModel" "written" "I") ∈ zx_T := zx_in 700 rfl rfl
set_option maxRecDepth 20000 in
theorem wd_669 : (Cond.soleField "BigDeskModel" "written") ∈ zx_T := zx_in 701 rfl rfl
set_option maxRecDepth 20000 in
theorem wd_670 : (Cond.superclass "BigDeskModel" "java/lang/Object") ∈ zx_T := zx_in 702 rfl rfl
set_option maxRecDepth 20000 in
theorem wd_671 : (Cond.arrayClass FieldType.int) ∈ zx_T := zx_in 703 rfl rfl
set_option maxRecDepth 20000 in
theorem wd_672 : (Cond.methodLink "BigDeskLaw" (104 : Nat) y_MO_thrown) ∈ zx_T := zx_in 704 rfl rfl
set_option maxRecDepth 20000 in
theorem wd_673 : (Cond.instanceMethod y_MO_thrown) ∈ zx_T := zx_in 705 rfl rfl
set_option maxRecDepth 20000 in
theorem wd_674 : (Cond.selects "BigDeskModel" y_MO_thrown y_MO_thrown) ∈ zx_T := zx_in 706 rfl rfl
set_option maxRecDepth 20000 in
theorem wd_675 : (Cond.code y_MO_thrown prog_8_method_2_code (1 : Nat) (Option.some FieldType.int)) ∈ zx_T := zx_in 707 rfl rfl
set_option maxRecDepth 20000 in
theorem wd_676 : (Cond.methodLink "BigDeskLaw" (103 : Nat) y_MO_set) ∈ zx_T := zx_in 708 rfl rfl
set_option maxRecDepth 20000 in
theorem wd_677 : (Cond.instanceMethod y_MO_set) ∈ zx_T := zx_in 709 rfl rfl
set_option maxRecDepth 20000 in
theorem wd_678 : (Cond.selects "BigDeskModel" y_MO_set y_MO_set) ∈ zx_T := zx_in 710 rfl rfl
set_option maxRecDepth 20000 in
theorem wd_679 : (Cond.code y_MO_set prog_8_method_21_code (4 : Nat) (Option.none : Option FieldType)) ∈ zx_T := zx_in 711 rfl rfl
set_option maxRecDepth 20000 in
theorem wd_680 : (Cond.methodLink "BigDeskModel" (67 : Nat) y_MO_isNone) ∈ zx_T := zx_in 712 rfl rfl
set_option maxRecDepth 20000 in
theorem wd_681 : (Cond.static y_MO_isNone) ∈ zx_T := zx_in 713 rfl rfl
set_option maxRecDepth 20000 in
theorem wd_682 : (Cond.code y_MO_isNone prog_8_method_5_code (1 : Nat) (Option.some FieldType.boolean)) ∈ zx_T := zx_in 714 rfl rfl
set_option maxRecDepth 20000 in
theorem wd_683 : (Cond.methodLink "BigDeskModel" (71 : Nat) y_MO_fails) ∈ zx_T := zx_in 715 rfl rfl
set_option maxRecDepth 20000 in
theorem wd_685 : (Cond.instanceMethod y_MO_fails) ∈ zx_T := zx_in 717 rfl rfl
set_option maxRecDepth 20000 in
theorem wd_686 : (Cond.code y_MO_fails prog_8_method_3_code (3 : Nat) (Option.some FieldType.boolean)) ∈ zx_T := zx_in 718 rfl rfl
set_option maxRecDepth 20000 in
theorem wd_687 : (Cond.methodLink "BigDeskLaw" (111 : Nat) y_MO_copy) ∈ zx_T := zx_in 719 rfl rfl
set_option maxRecDepth 20000 in
theorem wd_688 : (Cond.instanceMethod y_MO_copy) ∈ zx_T := zx_in 720 rfl rfl
set_option maxRecDepth 20000 in
theorem wd_689 : (Cond.selects "BigDeskModel" y_MO_copy y_MO_copy) ∈ zx_T := zx_in 721 rfl rfl
set_option maxRecDepth 20000 in
theorem wd_690 : (Cond.code y_MO_copy prog_8_method_22_code (3 : Nat) (Option.none : Option FieldType)) ∈ zx_T := zx_in 722 rfl rfl
set_option maxRecDepth 20000 in
theorem wd_691 : (Cond.methodLink "BigDeskModel" (46 : Nat) y_MO_copyRow) ∈ zx_T := zx_in 723 rfl rfl
set_option maxRecDepth 20000 in
theorem wd_693 : (Cond.instanceMethod y_MO_copyRow) ∈ zx_T := zx_in 725 rfl rfl
set_option maxRecDepth 20000 in
theorem wd_694 : (Cond.code y_MO_copyRow prog_8_method_7_code (4 : Nat) (Option.none : Option FieldType)) ∈ zx_T := zx_in 726 rfl rfl
set_option maxRecDepth 20000 in
theorem wd_695 : (Cond.methodLink "BigDeskLaw" (115 : Nat) y_MO_add) ∈ zx_T := zx_in 727 rfl rfl
set_option maxRecDepth 20000 in
theorem wd_696 : (Cond.instanceMethod y_MO_add) ∈ zx_T := zx_in 728 rfl rfl
set_option maxRecDepth 20000 in
theorem wd_697 : (Cond.selects "BigDeskModel" y_MO_add y_MO_add) ∈ zx_T := zx_in 729 rfl rfl
set_option maxRecDepth 20000 in
theorem wd_698 : (Cond.code y_MO_add prog_8_method_23_code (4 : Nat) (Option.none : Option FieldType)) ∈ zx_T := zx_in 730 rfl rfl
set_option maxRecDepth 20000 in
theorem wd_699 : (Cond.methodLink "BigDeskModel" (75 : Nat) y_MO_sum) ∈ zx_T := zx_in 731 rfl rfl
set_option maxRecDepth 20000 in
theorem wd_701 : (Cond.instanceMethod y_MO_sum) ∈ zx_T := zx_in 733 rfl rfl
set_option maxRecDepth 20000 in
theorem wd_702 : (Cond.code y_MO_sum prog_8_method_12_code (6 : Nat) (Option.none : Option FieldType)) ∈ zx_T := zx_in 734 rfl rfl
set_option maxRecDepth 20000 in
theorem wd_703 : (Cond.methodLink "BigDeskModel" (49 : Nat) y_MO_joins) ∈ zx_T := zx_in 735 rfl rfl
set_option maxRecDepth 20000 in
theorem wd_705 : (Cond.instanceMethod y_MO_joins) ∈ zx_T := zx_in 737 rfl rfl
set_option maxRecDepth 20000 in
theorem wd_706 : (Cond.code y_MO_joins prog_8_method_11_code (9 : Nat) (Option.none : Option FieldType)) ∈ zx_T := zx_in 738 rfl rfl
set_option maxRecDepth 20000 in
theorem wd_707 : (Cond.methodLink "BigDeskModel" (43 : Nat) y_MO_trim) ∈ zx_T := zx_in 739 rfl rfl
set_option maxRecDepth 20000 in
theorem wd_709 : (Cond.instanceMethod y_MO_trim) ∈ zx_T := zx_in 741 rfl rfl
set_option maxRecDepth 20000 in
theorem wd_710 : (Cond.code y_MO_trim prog_8_method_9_code (3 : Nat) (Option.none : Option FieldType)) ∈ zx_T := zx_in 742 rfl rfl
set_option maxRecDepth 20000 in
theorem wd_711 : (Cond.methodLink "BigDeskModel" (53 : Nat) y_MO_against) ∈ zx_T := zx_in 743 rfl rfl
set_option maxRecDepth 20000 in
theorem wd_713 : (Cond.instanceMethod y_MO_against) ∈ zx_T := zx_in 745 rfl rfl
set_option maxRecDepth 20000 in
theorem wd_714 : (Cond.code y_MO_against prog_8_method_10_code (4 : Nat) (Option.some FieldType.int)) ∈ zx_T := zx_in 746 rfl rfl
set_option maxRecDepth 20000 in
theorem wd_715 : (Cond.methodLink "BigDeskModel" (79 : Nat) y_MO_becomes) ∈ zx_T := zx_in 747 rfl rfl
set_option maxRecDepth 20000 in
theorem wd_717 : (Cond.instanceMethod y_MO_becomes) ∈ zx_T := zx_in 749 rfl rfl
set_option maxRecDepth 20000 in
theorem wd_718 : (Cond.code y_MO_becomes prog_8_method_19_code (2 : Nat) (Option.some FieldType.boolean)) ∈ zx_T := zx_in 750 rfl rfl
set_option maxRecDepth 20000 in
theorem wd_719 : (Cond.methodLink "BigDeskLaw" (118 : Nat) y_MO_subtract) ∈ zx_T := zx_in 751 rfl rfl
set_option maxRecDepth 20000 in
theorem wd_720 : (Cond.instanceMethod y_MO_subtract) ∈ zx_T := zx_in 752 rfl rfl
set_option maxRecDepth 20000 in
theorem wd_721 : (Cond.selects "BigDeskModel" y_MO_subtract y_MO_subtract) ∈ zx_T := zx_in 753 rfl rfl
set_option maxRecDepth 20000 in
theorem wd_722 : (Cond.code y_MO_subtract prog_8_method_24_code (4 : Nat) (Option.none : Option FieldType)) ∈ zx_T := zx_in 754 rfl rfl
set_option maxRecDepth 20000 in
theorem wd_723 : (Cond.methodLink "BigDeskLaw" (121 : Nat) y_MO_multiply) ∈ zx_T := zx_in 755 rfl rfl
set_option maxRecDepth 20000 in
theorem wd_724 : (Cond.instanceMethod y_MO_multiply) ∈ zx_T := zx_in 756 rfl rfl
set_option maxRecDepth 20000 in
theorem wd_725 : (Cond.selects "BigDeskModel" y_MO_multiply y_MO_multiply) ∈ zx_T := zx_in 757 rfl rfl
set_option maxRecDepth 20000 in
theorem wd_726 : (Cond.code y_MO_multiply prog_8_method_25_code (4 : Nat) (Option.none : Option FieldType)) ∈ zx_T := zx_in 758 rfl rfl
set_option maxRecDepth 20000 in
theorem wd_727 : (Cond.methodLink "BigDeskModel" (82 : Nat) y_MO_product) ∈ zx_T := zx_in 759 rfl rfl
set_option maxRecDepth 20000 in
theorem wd_729 : (Cond.instanceMethod y_MO_product) ∈ zx_T := zx_in 761 rfl rfl
set_option maxRecDepth 20000 in
theorem wd_730 : (Cond.code y_MO_product prog_8_method_13_code (8 : Nat) (Option.none : Option FieldType)) ∈ zx_T := zx_in 762 rfl rfl
set_option maxRecDepth 20000 in
theorem wd_731 : (Cond.methodLink "BigDeskLaw" (125 : Nat) y_MO_times) ∈ zx_T := zx_in 763 rfl rfl
set_option maxRecDepth 20000 in
theorem wd_732 : (Cond.instanceMethod y_MO_times) ∈ zx_T := zx_in 764 rfl rfl
set_option maxRecDepth 20000 in
theorem wd_733 : (Cond.selects "BigDeskModel" y_MO_times y_MO_times) ∈ zx_T := zx_in 765 rfl rfl
set_option maxRecDepth 20000 in
theorem wd_734 : (Cond.code y_MO_times prog_8_method_26_code (5 : Nat) (Option.none : Option FieldType)) ∈ zx_T := zx_in 766 rfl rfl
set_option maxRecDepth 20000 in
theorem wd_735 : (Cond.methodLink "BigDeskLaw" (128 : Nat) y_MO_shift) ∈ zx_T := zx_in 767 rfl rfl
set_option maxRecDepth 20000 in
theorem wd_736 : (Cond.instanceMethod y_MO_shift) ∈ zx_T := zx_in 768 rfl rfl
set_option maxRecDepth 20000 in
theorem wd_737 : (Cond.selects "BigDeskModel" y_MO_shift y_MO_shift) ∈ zx_T := zx_in 769 rfl rfl
set_option maxRecDepth 20000 in
theorem wd_738 : (Cond.code y_MO_shift prog_8_method_27_code (5 : Nat) (Option.none : Option FieldType)) ∈ zx_T := zx_in 770 rfl rfl
set_option maxRecDepth 20000 in
theorem wd_739 : (Cond.constantLong "BigDeskModel" (85 : Nat) (8192 : Int64)) ∈ zx_T := zx_in 771 rfl rfl
set_option maxRecDepth 20000 in
theorem wd_740 : (Cond.methodLink "BigDeskModel" (87 : Nat) y_MO_in) ∈ zx_T := zx_in 772 rfl rfl
set_option maxRecDepth 20000 in
theorem wd_741 : (Cond.static y_MO_in) ∈ zx_T := zx_in 773 rfl rfl
set_option maxRecDepth 20000 in
theorem wd_742 : (Cond.code y_MO_in prog_8_method_4_code (6 : Nat) (Option.some FieldType.boolean)) ∈ zx_T := zx_in 774 rfl rfl
set_option maxRecDepth 20000 in
theorem wd_743 : (Cond.methodLink "BigDeskLaw" (131 : Nat) y_MO_half) ∈ zx_T := zx_in 775 rfl rfl
set_option maxRecDepth 20000 in
theorem wd_744 : (Cond.instanceMethod y_MO_half) ∈ zx_T := zx_in 776 rfl rfl
set_option maxRecDepth 20000 in
theorem wd_745 : (Cond.selects "BigDeskModel" y_MO_half y_MO_half) ∈ zx_T := zx_in 777 rfl rfl
set_option maxRecDepth 20000 in
theorem wd_746 : (Cond.code y_MO_half prog_8_method_28_code (7 : Nat) (Option.none : Option FieldType)) ∈ zx_T := zx_in 778 rfl rfl
set_option maxRecDepth 20000 in
theorem wd_747 : (Cond.methodLink "BigDeskModel" (64 : Nat) y_MO_parts) ∈ zx_T := zx_in 779 rfl rfl
set_option maxRecDepth 20000 in
theorem wd_749 : (Cond.instanceMethod y_MO_parts) ∈ zx_T := zx_in 781 rfl rfl
set_option maxRecDepth 20000 in
theorem wd_750 : (Cond.code y_MO_parts prog_8_method_15_code (6 : Nat) (Option.some FieldType.int)) ∈ zx_T := zx_in 782 rfl rfl
set_option maxRecDepth 20000 in
theorem wd_751 : (Cond.constantLong "BigDeskModel" (91 : Nat) (-1 : Int64)) ∈ zx_T := zx_in 783 rfl rfl
set_option maxRecDepth 20000 in
theorem wd_752 : (Cond.methodLink "BigDeskLaw" (135 : Nat) y_MO_divide) ∈ zx_T := zx_in 784 rfl rfl
set_option maxRecDepth 20000 in
theorem wd_753 : (Cond.instanceMethod y_MO_divide) ∈ zx_T := zx_in 785 rfl rfl
set_option maxRecDepth 20000 in
theorem wd_754 : (Cond.selects "BigDeskModel" y_MO_divide y_MO_divide) ∈ zx_T := zx_in 786 rfl rfl
set_option maxRecDepth 20000 in
theorem wd_755 : (Cond.code y_MO_divide prog_8_method_29_code (8 : Nat) (Option.none : Option FieldType)) ∈ zx_T := zx_in 787 rfl rfl
set_option maxRecDepth 20000 in
theorem wd_756 : (Cond.methodLink "BigDeskModel" (93 : Nat) y_MO_quotient) ∈ zx_T := zx_in 788 rfl rfl
set_option maxRecDepth 20000 in
theorem wd_758 : (Cond.instanceMethod y_MO_quotient) ∈ zx_T := zx_in 790 rfl rfl
set_option maxRecDepth 20000 in
theorem wd_759 : (Cond.code y_MO_quotient prog_8_method_16_code (6 : Nat) (Option.none : Option FieldType)) ∈ zx_T := zx_in 791 rfl rfl
set_option maxRecDepth 20000 in
theorem wd_760 : (Cond.methodLink "BigDeskModel" (56 : Nat) y_MO_guess) ∈ zx_T := zx_in 792 rfl rfl
set_option maxRecDepth 20000 in
theorem wd_762 : (Cond.instanceMethod y_MO_guess) ∈ zx_T := zx_in 794 rfl rfl
set_option maxRecDepth 20000 in
theorem wd_763 : (Cond.code y_MO_guess prog_8_method_17_code (9 : Nat) (Option.some FieldType.int)) ∈ zx_T := zx_in 795 rfl rfl
set_option maxRecDepth 20000 in
theorem wd_764 : (Cond.methodLink "BigDeskModel" (60 : Nat) y_MO_lessens) ∈ zx_T := zx_in 796 rfl rfl
set_option maxRecDepth 20000 in
theorem wd_766 : (Cond.instanceMethod y_MO_lessens) ∈ zx_T := zx_in 798 rfl rfl
set_option maxRecDepth 20000 in
theorem wd_767 : (Cond.code y_MO_lessens prog_8_method_18_code (6 : Nat) (Option.none : Option FieldType)) ∈ zx_T := zx_in 799 rfl rfl
set_option maxRecDepth 20000 in
theorem wd_768 : (Cond.methodLink "BigDeskLaw" (138 : Nat) y_MO_gcd) ∈ zx_T := zx_in 800 rfl rfl
set_option maxRecDepth 20000 in
theorem wd_769 : (Cond.instanceMethod y_MO_gcd) ∈ zx_T := zx_in 801 rfl rfl
set_option maxRecDepth 20000 in
theorem wd_770 : (Cond.selects "BigDeskModel" y_MO_gcd y_MO_gcd) ∈ zx_T := zx_in 802 rfl rfl
set_option maxRecDepth 20000 in
theorem wd_771 : (Cond.code y_MO_gcd prog_8_method_30_code (4 : Nat) (Option.none : Option FieldType)) ∈ zx_T := zx_in 803 rfl rfl
set_option maxRecDepth 20000 in
theorem wd_772 : (Cond.methodLink "BigDeskLaw" (141 : Nat) y_MO_negate) ∈ zx_T := zx_in 804 rfl rfl
set_option maxRecDepth 20000 in
theorem wd_773 : (Cond.instanceMethod y_MO_negate) ∈ zx_T := zx_in 805 rfl rfl
set_option maxRecDepth 20000 in
theorem wd_774 : (Cond.selects "BigDeskModel" y_MO_negate y_MO_negate) ∈ zx_T := zx_in 806 rfl rfl
set_option maxRecDepth 20000 in
theorem wd_775 : (Cond.code y_MO_negate prog_8_method_31_code (3 : Nat) (Option.none : Option FieldType)) ∈ zx_T := zx_in 807 rfl rfl
set_option maxRecDepth 20000 in
theorem wd_776 : (Cond.methodLink "BigDeskLaw" (145 : Nat) y_MO_compare) ∈ zx_T := zx_in 808 rfl rfl
set_option maxRecDepth 20000 in
theorem wd_777 : (Cond.instanceMethod y_MO_compare) ∈ zx_T := zx_in 809 rfl rfl
set_option maxRecDepth 20000 in
theorem wd_778 : (Cond.selects "BigDeskModel" y_MO_compare y_MO_compare) ∈ zx_T := zx_in 810 rfl rfl
set_option maxRecDepth 20000 in
theorem wd_779 : (Cond.code y_MO_compare prog_8_method_32_code (3 : Nat) (Option.some FieldType.int)) ∈ zx_T := zx_in 811 rfl rfl
set_option maxRecDepth 20000 in
theorem wd_780 : (Cond.methodLink "BigDeskLaw" (149 : Nat) y_MO_rest) ∈ zx_T := zx_in 812 rfl rfl
set_option maxRecDepth 20000 in
theorem wd_781 : (Cond.instanceMethod y_MO_rest) ∈ zx_T := zx_in 813 rfl rfl
set_option maxRecDepth 20000 in
theorem wd_782 : (Cond.selects "BigDeskModel" y_MO_rest y_MO_rest) ∈ zx_T := zx_in 814 rfl rfl
set_option maxRecDepth 20000 in
theorem wd_783 : (Cond.code y_MO_rest prog_8_method_33_code (10 : Nat) (Option.some FieldType.long)) ∈ zx_T := zx_in 815 rfl rfl
set_option maxRecDepth 20000 in
theorem wd_784 : (Cond.methodLink "BigDeskModel" (96 : Nat) y_MO_twice) ∈ zx_T := zx_in 816 rfl rfl
set_option maxRecDepth 20000 in
theorem wd_785 : (Cond.static y_MO_twice) ∈ zx_T := zx_in 817 rfl rfl
set_option maxRecDepth 20000 in
theorem wd_786 : (Cond.code y_MO_twice prog_8_method_34_code (6 : Nat) (Option.some FieldType.long)) ∈ zx_T := zx_in 818 rfl rfl
set_option maxRecDepth 20000 in
theorem wd_787 : (Cond.methodLink "BigDeskLaw" (153 : Nat) y_MO_value) ∈ zx_T := zx_in 819 rfl rfl
set_option maxRecDepth 20000 in
theorem wd_788 : (Cond.instanceMethod y_MO_value) ∈ zx_T := zx_in 820 rfl rfl
set_option maxRecDepth 20000 in
theorem wd_789 : (Cond.selects "BigDeskModel" y_MO_value y_MO_value) ∈ zx_T := zx_in 821 rfl rfl
set_option maxRecDepth 20000 in
theorem wd_790 : (Cond.code y_MO_value prog_8_method_37_code (2 : Nat) (Option.some FieldType.long)) ∈ zx_T := zx_in 822 rfl rfl
set_option maxRecDepth 20000 in
theorem wd_791 : (Cond.methodLink "BigDeskModel" (102 : Nat) y_MO_isLong) ∈ zx_T := zx_in 823 rfl rfl
set_option maxRecDepth 20000 in
theorem wd_793 : (Cond.instanceMethod y_MO_isLong) ∈ zx_T := zx_in 825 rfl rfl
set_option maxRecDepth 20000 in
theorem wd_794 : (Cond.code y_MO_isLong prog_8_method_35_code (5 : Nat) (Option.some FieldType.boolean)) ∈ zx_T := zx_in 826 rfl rfl
set_option maxRecDepth 20000 in
theorem wd_795 : (Cond.constantLong "BigDeskModel" (100 : Nat) (-9223372036854775808 : Int64)) ∈ zx_T := zx_in 827 rfl rfl
set_option maxRecDepth 20000 in
theorem wd_796 : (Cond.methodLink "BigDeskModel" (105 : Nat) y_MO_longOf) ∈ zx_T := zx_in 828 rfl rfl
set_option maxRecDepth 20000 in
theorem wd_798 : (Cond.instanceMethod y_MO_longOf) ∈ zx_T := zx_in 830 rfl rfl
set_option maxRecDepth 20000 in
theorem wd_799 : (Cond.code y_MO_longOf prog_8_method_36_code (5 : Nat) (Option.some FieldType.long)) ∈ zx_T := zx_in 831 rfl rfl
set_option maxRecDepth 20000 in
theorem wd_800 : (Cond.methodLink "BigDeskLaw" (156 : Nat) y_MO_limb) ∈ zx_T := zx_in 832 rfl rfl
set_option maxRecDepth 20000 in
theorem wd_801 : (Cond.instanceMethod y_MO_limb) ∈ zx_T := zx_in 833 rfl rfl
set_option maxRecDepth 20000 in
theorem wd_802 : (Cond.selects "BigDeskModel" y_MO_limb y_MO_limb) ∈ zx_T := zx_in 834 rfl rfl
set_option maxRecDepth 20000 in
theorem wd_803 : (Cond.code y_MO_limb prog_8_method_38_code (5 : Nat) (Option.some FieldType.long)) ∈ zx_T := zx_in 835 rfl rfl
set_option maxRecDepth 20000 in
theorem wd_804 : (Cond.constantLong "BigDeskModel" (109 : Nat) (255 : Int64)) ∈ zx_T := zx_in 836 rfl rfl
set_option maxRecDepth 20000 in
theorem wd_805 : (Cond.constant "BigDeskModel" (63 : Nat) (65536 : Int32)) ∈ zx_T := zx_in 837 rfl rfl
set_option maxRecDepth 20000 in
theorem wd_806 : (Cond.constantLong "BigDeskModel" (111 : Nat) (65536 : Int64)) ∈ zx_T := zx_in 838 rfl rfl
set_option maxRecDepth 20000 in
theorem wd_807 : (Cond.methodLink "BigDeskLaw" (159 : Nat) y_MO_look) ∈ zx_T := zx_in 839 rfl rfl
set_option maxRecDepth 20000 in
theorem wd_808 : (Cond.instanceMethod y_MO_look) ∈ zx_T := zx_in 840 rfl rfl
set_option maxRecDepth 20000 in
theorem wd_809 : (Cond.selects "BigDeskModel" y_MO_look y_MO_look) ∈ zx_T := zx_in 841 rfl rfl
set_option maxRecDepth 20000 in
theorem wd_810 : (Cond.code y_MO_look prog_8_method_39_code (4 : Nat) (Option.some FieldType.int)) ∈ zx_T := zx_in 842 rfl rfl
set_option maxRecDepth 20000 in
theorem wd_811 : (Cond.constantLong "BigDeskModel" (113 : Nat) (3 : Int64)) ∈ zx_T := zx_in 843 rfl rfl
set_option maxRecDepth 20000 in
theorem wd_812 : (Cond.methodLink "BigDeskModel" (115 : Nat) y_MO_bits) ∈ zx_T := zx_in 844 rfl rfl
set_option maxRecDepth 20000 in
theorem wd_814 : (Cond.instanceMethod y_MO_bits) ∈ zx_T := zx_in 846 rfl rfl
set_option maxRecDepth 20000 in
theorem wd_815 : (Cond.code y_MO_bits prog_8_method_20_code (5 : Nat) (Option.some FieldType.int)) ∈ zx_T := zx_in 847 rfl rfl
set_option maxRecDepth 20000 in
theorem wd_816 : (Cond.methodLink "BigDeskLaw" (162 : Nat) y_MO_feed) ∈ zx_T := zx_in 848 rfl rfl
set_option maxRecDepth 20000 in
theorem wd_817 : (Cond.instanceMethod y_MO_feed) ∈ zx_T := zx_in 849 rfl rfl
set_option maxRecDepth 20000 in
theorem wd_818 : (Cond.selects "BigDeskModel" y_MO_feed y_MO_feed) ∈ zx_T := zx_in 850 rfl rfl
set_option maxRecDepth 20000 in
theorem wd_819 : (Cond.code y_MO_feed prog_8_method_40_code (5 : Nat) (Option.some FieldType.int)) ∈ zx_T := zx_in 851 rfl rfl
set_option maxRecDepth 20000 in
theorem wd_820 : (Cond.constantLong "BigDeskModel" (118 : Nat) (8 : Int64)) ∈ zx_T := zx_in 852 rfl rfl
set_option maxRecDepth 20000 in
theorem wd_821 : (Cond.methodLink "BigDeskLaw" (165 : Nat) y_MO_read) ∈ zx_T := zx_in 853 rfl rfl
set_option maxRecDepth 20000 in
theorem wd_822 : (Cond.instanceMethod y_MO_read) ∈ zx_T := zx_in 854 rfl rfl
set_option maxRecDepth 20000 in
theorem wd_823 : (Cond.selects "BigDeskModel" y_MO_read y_MO_read) ∈ zx_T := zx_in 855 rfl rfl
set_option maxRecDepth 20000 in
theorem wd_824 : (Cond.code y_MO_read prog_8_method_42_code (3 : Nat) (Option.some FieldType.boolean)) ∈ zx_T := zx_in 856 rfl rfl
set_option maxRecDepth 20000 in
theorem wd_825 : (Cond.methodLink "BigDeskModel" (123 : Nat) y_MO_reads) ∈ zx_T := zx_in 857 rfl rfl
set_option maxRecDepth 20000 in
theorem wd_827 : (Cond.instanceMethod y_MO_reads) ∈ zx_T := zx_in 859 rfl rfl
set_option maxRecDepth 20000 in
theorem wd_828 : (Cond.code y_MO_reads prog_8_method_41_code (7 : Nat) (Option.some FieldType.boolean)) ∈ zx_T := zx_in 860 rfl rfl
set_option maxRecDepth 20000 in
theorem wd_829 : (Cond.methodLink "BigDeskLaw" (168 : Nat) y_MO_write) ∈ zx_T := zx_in 861 rfl rfl
set_option maxRecDepth 20000 in
theorem wd_830 : (Cond.instanceMethod y_MO_write) ∈ zx_T := zx_in 862 rfl rfl
set_option maxRecDepth 20000 in
theorem wd_831 : (Cond.selects "BigDeskModel" y_MO_write y_MO_write) ∈ zx_T := zx_in 863 rfl rfl
set_option maxRecDepth 20000 in
theorem wd_832 : (Cond.code y_MO_write prog_8_method_43_code (5 : Nat) (Option.some FieldType.int)) ∈ zx_T := zx_in 864 rfl rfl
set_option maxRecDepth 20000 in
theorem wd_833 : (Cond.methodLink "BigDeskModel" (130 : Nat) y_MO_say) ∈ zx_T := zx_in 865 rfl rfl
set_option maxRecDepth 20000 in
theorem wd_835 : (Cond.instanceMethod y_MO_say) ∈ zx_T := zx_in 867 rfl rfl
set_option maxRecDepth 20000 in
theorem wd_836 : (Cond.code y_MO_say prog_8_method_44_code (2 : Nat) (Option.none : Option FieldType)) ∈ zx_T := zx_in 868 rfl rfl
set_option maxRecDepth 20000 in
theorem wd_837 : (Cond.methodLink "BigDeskLaw" (171 : Nat) y_MO_out) ∈ zx_T := zx_in 869 rfl rfl
set_option maxRecDepth 20000 in
theorem wd_838 : (Cond.instanceMethod y_MO_out) ∈ zx_T := zx_in 870 rfl rfl
set_option maxRecDepth 20000 in
theorem wd_839 : (Cond.selects "BigDeskModel" y_MO_out y_MO_out) ∈ zx_T := zx_in 871 rfl rfl
set_option maxRecDepth 20000 in
theorem wd_840 : (Cond.code y_MO_out prog_8_method_45_code (5 : Nat) (Option.some FieldType.long)) ∈ zx_T := zx_in 872 rfl rfl
set_option maxRecDepth 20000 in
theorem wd_841 : (Cond.methodLink "BigDeskLaw" (174 : Nat) y_MO_text) ∈ zx_T := zx_in 873 rfl rfl
set_option maxRecDepth 20000 in
theorem wd_842 : (Cond.instanceMethod y_MO_text) ∈ zx_T := zx_in 874 rfl rfl
set_option maxRecDepth 20000 in
theorem wd_843 : (Cond.selects "BigDeskModel" y_MO_text y_MO_text) ∈ zx_T := zx_in 875 rfl rfl
set_option maxRecDepth 20000 in
theorem wd_844 : (Cond.code y_MO_text prog_8_method_46_code (2 : Nat) (Option.some FieldType.int)) ∈ zx_T := zx_in 876 rfl rfl
set_option maxRecDepth 20000 in
theorem wd_845 : (Cond.constantLong "BigDeskLaw" (96 : Nat) (4294967295 : Int64)) ∈ zx_T := zx_in 877 rfl rfl
set_option maxRecDepth 20000 in
theorem wd_846 : (Cond.sameMethod "java/lang/Throwable" "java/lang/Throwable" "fillInStackTrace" "(I)Ljava/lang/Throwable;") ∈ zx_T := zx_in 878 rfl rfl
