/-! ===== BEGIN printed: names, fields, word lists, decode rows ===== -/
def RX0 : String := "SightLegend$Box"
def TX0 : u_T := fun k => match k with
  | 0 => ("SightLegend$Box", "corner", "I", false)
  | 1 => ("SightLegend$Box", "left", "I", false)
  | 2 => ("SightLegend$Box", "top", "I", false)
  | 3 => ("SightLegend$Box", "width", "I", false)
  | 4 => ("SightLegend$Box", "height", "I", false)
  | _ => ("SightLegend$Box", "covered", "I", false)
def tyX0 : Nat → FieldType := fun k => match k with
  | 0 => .int
  | 1 => .int
  | 2 => .int
  | 3 => .int
  | 4 => .int
  | _ => .int
abbrev wsX00 : List Cond := u_ws RX0 TX0 6
theorem nmX0 : ∀ a, a < 6 → ∀ b, b < 6 → a ≠ b → (TX0 a).2.1 ≠ (TX0 b).2.1 := by decide +kernel
theorem tyX0_ok : ∀ k, k < 6 → parseFieldDescriptor (TX0 k).2.2.1 = some (tyX0 k) := by decide +kernel
abbrev cX0_init : ByteArray := prog_2_method_1_code
def yX0_init : MethodName := ⟨RX0, "<init>", "()V"⟩
abbrev cX0_place : ByteArray := prog_2_method_2_code
def yX0_place : MethodName := ⟨RX0, "place", "(LSightLegend$MapState;LSightLegend$Lines;[Z)V"⟩
abbrev cX0_vanish : ByteArray := prog_2_method_3_code
def yX0_vanish : MethodName := ⟨RX0, "vanish", "()V"⟩
abbrev cX0_moveTo : ByteArray := prog_2_method_4_code
def yX0_moveTo : MethodName := ⟨RX0, "moveTo", "(LSightLegend$MapState;I)V"⟩
abbrev cX0_countCovered : ByteArray := prog_2_method_5_code
def yX0_countCovered : MethodName := ⟨RX0, "countCovered", "(LSightLegend$MapState;[Z)I"⟩
abbrev cX0_covers : ByteArray := prog_2_method_6_code
def yX0_covers : MethodName := ⟨RX0, "covers", "(LSightLegend$MapState;I)Z"⟩
abbrev cX0_fact : ByteArray := prog_2_method_7_code
def yX0_fact : MethodName := ⟨RX0, "fact", "(I)I"⟩
def RX1 : String := "SightLegend$Legend"
def TX1 : u_T := fun k => match k with
  | 0 => ("SightLegend$Legend", "stands", "Z", false)
  | 1 => ("SightLegend$Legend", "shown", "[Z", true)
  | 2 => ("SightLegend$Legend", "inSight", "[Z", true)
  | 3 => ("SightLegend$Legend", "shownCount", "I", false)
  | 4 => ("SightLegend$Legend", "explainedCount", "I", false)
  | 5 => ("SightLegend$Legend", "ranges", "LSightLegend$Ranges;", true)
  | 6 => ("SightLegend$Legend", "now", "LSightLegend$Lines;", true)
  | 7 => ("SightLegend$Legend", "before", "LSightLegend$Lines;", true)
  | 8 => ("SightLegend$Legend", "box", "LSightLegend$Box;", true)
  | 9 => ("SightLegend$Legend", "roundCount", "I", false)
  | 10 => ("SightLegend$Legend", "stays", "Z", false)
  | _ => ("SightLegend$Legend", "firstLineCount", "I", false)
def tyX1 : Nat → FieldType := fun k => match k with
  | 0 => .boolean
  | 1 => .array .boolean
  | 2 => .array .boolean
  | 3 => .int
  | 4 => .int
  | 5 => .object "SightLegend$Ranges"
  | 6 => .object "SightLegend$Lines"
  | 7 => .object "SightLegend$Lines"
  | 8 => .object "SightLegend$Box"
  | 9 => .int
  | 10 => .boolean
  | _ => .int
abbrev wsX10 : List Cond := u_ws RX1 TX1 12
theorem nmX1 : ∀ a, a < 12 → ∀ b, b < 12 → a ≠ b → (TX1 a).2.1 ≠ (TX1 b).2.1 := by decide +kernel
theorem tyX1_ok : ∀ k, k < 12 → parseFieldDescriptor (TX1 k).2.2.1 = some (tyX1 k) := by decide +kernel
abbrev cX1_init : ByteArray := prog_3_method_1_code
def yX1_init : MethodName := ⟨RX1, "<init>", "()V"⟩
abbrev cX1_make : ByteArray := prog_3_method_2_code
def yX1_make : MethodName := ⟨RX1, "make", "(LSightLegend$MapState;)V"⟩
abbrev cX1_seeAllShown : ByteArray := prog_3_method_3_code
def yX1_seeAllShown : MethodName := ⟨RX1, "seeAllShown", "(LSightLegend$MapState;)V"⟩
abbrev cX1_hideCovered : ByteArray := prog_3_method_4_code
def yX1_hideCovered : MethodName := ⟨RX1, "hideCovered", "(LSightLegend$MapState;)V"⟩
abbrev cX1_makeRound : ByteArray := prog_3_method_5_code
def yX1_makeRound : MethodName := ⟨RX1, "makeRound", "(LSightLegend$MapState;I)V"⟩
abbrev cX1_countCoveredInSight : ByteArray := prog_3_method_6_code
def yX1_countCoveredInSight : MethodName := ⟨RX1, "countCoveredInSight", "(LSightLegend$MapState;)I"⟩
abbrev cX1_lineOf : ByteArray := prog_3_method_7_code
def yX1_lineOf : MethodName := ⟨RX1, "lineOf", "(LSightLegend$MapState;I)I"⟩
def RX2 : String := "SightLegend$Lines"
def TX2 : u_T := fun k => match k with
  | 0 => ("SightLegend$Lines", "size", "I", false)
  | 1 => ("SightLegend$Lines", "type", "[I", true)
  | 2 => ("SightLegend$Lines", "kind", "[I", true)
  | 3 => ("SightLegend$Lines", "group", "[I", true)
  | 4 => ("SightLegend$Lines", "first", "[I", true)
  | 5 => ("SightLegend$Lines", "last", "[I", true)
  | 6 => ("SightLegend$Lines", "signs", "[I", true)
  | 7 => ("SightLegend$Lines", "column", "[I", true)
  | 8 => ("SightLegend$Lines", "place", "[I", true)
  | 9 => ("SightLegend$Lines", "usedColumns", "I", false)
  | 10 => ("SightLegend$Lines", "tallest", "I", false)
  | 11 => ("SightLegend$Lines", "order", "[I", true)
  | 12 => ("SightLegend$Lines", "orderSize", "I", false)
  | _ => ("SightLegend$Lines", "groupDone", "[Z", true)
def tyX2 : Nat → FieldType := fun k => match k with
  | 0 => .int
  | 1 => .array .int
  | 2 => .array .int
  | 3 => .array .int
  | 4 => .array .int
  | 5 => .array .int
  | 6 => .array .int
  | 7 => .array .int
  | 8 => .array .int
  | 9 => .int
  | 10 => .int
  | 11 => .array .int
  | 12 => .int
  | _ => .array .boolean
abbrev wsX20 : List Cond := u_ws RX2 TX2 14
theorem nmX2 : ∀ a, a < 14 → ∀ b, b < 14 → a ≠ b → (TX2 a).2.1 ≠ (TX2 b).2.1 := by decide +kernel
theorem tyX2_ok : ∀ k, k < 14 → parseFieldDescriptor (TX2 k).2.2.1 = some (tyX2 k) := by decide +kernel
abbrev cX2_init : ByteArray := prog_4_method_1_code
def yX2_init : MethodName := ⟨RX2, "<init>", "()V"⟩
abbrev cX2_copyFrom : ByteArray := prog_4_method_2_code
def yX2_copyFrom : MethodName := ⟨RX2, "copyFrom", "(LSightLegend$Lines;)V"⟩
abbrev cX2_isSameAs : ByteArray := prog_4_method_3_code
def yX2_isSameAs : MethodName := ⟨RX2, "isSameAs", "(LSightLegend$Lines;)Z"⟩
abbrev cX2_compose : ByteArray := prog_4_method_4_code
def yX2_compose : MethodName := ⟨RX2, "compose", "(LSightLegend$MapState;LSightLegend$Ranges;)V"⟩
abbrev cX2_orderKinds : ByteArray := prog_4_method_5_code
def yX2_orderKinds : MethodName := ⟨RX2, "orderKinds", "(LSightLegend$MapState;LSightLegend$Ranges;)V"⟩
abbrev cX2_addGroup : ByteArray := prog_4_method_6_code
def yX2_addGroup : MethodName := ⟨RX2, "addGroup", "(LSightLegend$MapState;ILSightLegend$Ranges;)V"⟩
abbrev cX2_addKindLines : ByteArray := prog_4_method_7_code
def yX2_addKindLines : MethodName := ⟨RX2, "addKindLines", "(IILSightLegend$Ranges;)V"⟩
abbrev cX2_add : ByteArray := prog_4_method_8_code
def yX2_add : MethodName := ⟨RX2, "add", "(IIIIII)V"⟩
abbrev cX2_layOut : ByteArray := prog_4_method_9_code
def yX2_layOut : MethodName := ⟨RX2, "layOut", "(I)V"⟩
abbrev cX2_countOfKind : ByteArray := prog_4_method_10_code
def yX2_countOfKind : MethodName := ⟨RX2, "countOfKind", "(I)I"⟩
abbrev cX2_fact : ByteArray := prog_4_method_11_code
def yX2_fact : MethodName := ⟨RX2, "fact", "(II)I"⟩
def RX3 : String := "SightLegend$MapState"
def TX3 : u_T := fun k => match k with
  | 0 => ("SightLegend$MapState", "signKind", "[I", true)
  | 1 => ("SightLegend$MapState", "signColumn", "[I", true)
  | 2 => ("SightLegend$MapState", "signRow", "[I", true)
  | 3 => ("SightLegend$MapState", "signValue", "[I", true)
  | 4 => ("SightLegend$MapState", "signLevel", "[I", true)
  | 5 => ("SightLegend$MapState", "signCount", "I", false)
  | 6 => ("SightLegend$MapState", "rank", "[I", true)
  | 7 => ("SightLegend$MapState", "group", "[I", true)
  | 8 => ("SightLegend$MapState", "limitCount", "[I", true)
  | 9 => ("SightLegend$MapState", "limits", "[I", true)
  | 10 => ("SightLegend$MapState", "way", "[I", true)
  | 11 => ("SightLegend$MapState", "window", "[I", true)
  | _ => ("SightLegend$MapState", "settings", "[I", true)
def tyX3 : Nat → FieldType := fun k => match k with
  | 0 => .array .int
  | 1 => .array .int
  | 2 => .array .int
  | 3 => .array .int
  | 4 => .array .int
  | 5 => .int
  | 6 => .array .int
  | 7 => .array .int
  | 8 => .array .int
  | 9 => .array .int
  | 10 => .array .int
  | 11 => .array .int
  | _ => .array .int
abbrev wsX30 : List Cond := u_ws RX3 TX3 13
theorem nmX3 : ∀ a, a < 13 → ∀ b, b < 13 → a ≠ b → (TX3 a).2.1 ≠ (TX3 b).2.1 := by decide +kernel
theorem tyX3_ok : ∀ k, k < 13 → parseFieldDescriptor (TX3 k).2.2.1 = some (tyX3 k) := by decide +kernel
abbrev cX3_init : ByteArray := prog_5_method_1_code
def yX3_init : MethodName := ⟨RX3, "<init>", "()V"⟩
abbrev cX3_copyFrom : ByteArray := prog_5_method_2_code
def yX3_copyFrom : MethodName := ⟨RX3, "copyFrom", "(LSightLegend$MapState;)V"⟩
abbrev cX3_takeSigns : ByteArray := prog_5_method_3_code
def yX3_takeSigns : MethodName := ⟨RX3, "takeSigns", "(LSightLegend$MapState;)V"⟩
abbrev cX3_putSign : ByteArray := prog_5_method_4_code
def yX3_putSign : MethodName := ⟨RX3, "putSign", "(IIIII)V"⟩
abbrev cX3_dropSign : ByteArray := prog_5_method_5_code
def yX3_dropSign : MethodName := ⟨RX3, "dropSign", "(I)V"⟩
abbrev cX3_isInWindow : ByteArray := prog_5_method_6_code
def yX3_isInWindow : MethodName := ⟨RX3, "isInWindow", "(I)Z"⟩
abbrev cX3_isShown : ByteArray := prog_5_method_7_code
def yX3_isShown : MethodName := ⟨RX3, "isShown", "(I)Z"⟩
abbrev cX3_countShown : ByteArray := prog_5_method_8_code
def yX3_countShown : MethodName := ⟨RX3, "countShown", "()I"⟩
abbrev cX3_classOf : ByteArray := prog_5_method_9_code
def yX3_classOf : MethodName := ⟨RX3, "classOf", "(I)I"⟩
abbrev cX3_limitAt : ByteArray := prog_5_method_10_code
def yX3_limitAt : MethodName := ⟨RX3, "limitAt", "(II)I"⟩
abbrev cX3_hasLimit : ByteArray := prog_5_method_11_code
def yX3_hasLimit : MethodName := ⟨RX3, "hasLimit", "(II)Z"⟩
abbrev cX3_putLimit : ByteArray := prog_5_method_12_code
def yX3_putLimit : MethodName := ⟨RX3, "putLimit", "(II)V"⟩
abbrev cX3_dropLimit : ByteArray := prog_5_method_13_code
def yX3_dropLimit : MethodName := ⟨RX3, "dropLimit", "(II)V"⟩
def RX4 : String := "SightLegend$Ranges"
def TX4 : u_T := fun k => match k with
  | 0 => ("SightLegend$Ranges", "total", "[I", true)
  | 1 => ("SightLegend$Ranges", "classSigns", "[I", true)
  | 2 => ("SightLegend$Ranges", "size", "[I", true)
  | 3 => ("SightLegend$Ranges", "first", "[I", true)
  | 4 => ("SightLegend$Ranges", "last", "[I", true)
  | _ => ("SightLegend$Ranges", "signs", "[I", true)
def tyX4 : Nat → FieldType := fun k => match k with
  | 0 => .array .int
  | 1 => .array .int
  | 2 => .array .int
  | 3 => .array .int
  | 4 => .array .int
  | _ => .array .int
abbrev wsX40 : List Cond := u_ws RX4 TX4 6
theorem nmX4 : ∀ a, a < 6 → ∀ b, b < 6 → a ≠ b → (TX4 a).2.1 ≠ (TX4 b).2.1 := by decide +kernel
theorem tyX4_ok : ∀ k, k < 6 → parseFieldDescriptor (TX4 k).2.2.1 = some (tyX4 k) := by decide +kernel
abbrev cX4_init : ByteArray := prog_6_method_1_code
def yX4_init : MethodName := ⟨RX4, "<init>", "()V"⟩
abbrev cX4_build : ByteArray := prog_6_method_2_code
def yX4_build : MethodName := ⟨RX4, "build", "(LSightLegend$MapState;[Z)V"⟩
abbrev cX4_countSigns : ByteArray := prog_6_method_3_code
def yX4_countSigns : MethodName := ⟨RX4, "countSigns", "(LSightLegend$MapState;[Z)V"⟩
abbrev cX4_takeClasses : ByteArray := prog_6_method_4_code
def yX4_takeClasses : MethodName := ⟨RX4, "takeClasses", "(I)V"⟩
abbrev cX4_joinFewest : ByteArray := prog_6_method_5_code
def yX4_joinFewest : MethodName := ⟨RX4, "joinFewest", "(I)V"⟩
def RX5 : String := "SightLegend$SignText"
def TX5 : u_T := fun k => match k with
  | 0 => ("SightLegend$SignText", "bytes", "[I", true)
  | 1 => ("SightLegend$SignText", "length", "I", false)
  | 2 => ("SightLegend$SignText", "signs", "LSightLegend$MapState;", true)
  | 3 => ("SightLegend$SignText", "error", "I", false)
  | _ => ("SightLegend$SignText", "at", "I", false)
def tyX5 : Nat → FieldType := fun k => match k with
  | 0 => .array .int
  | 1 => .int
  | 2 => .object "SightLegend$MapState"
  | 3 => .int
  | _ => .int
abbrev wsX50 : List Cond := u_ws RX5 TX5 5
theorem nmX5 : ∀ a, a < 5 → ∀ b, b < 5 → a ≠ b → (TX5 a).2.1 ≠ (TX5 b).2.1 := by decide +kernel
theorem tyX5_ok : ∀ k, k < 5 → parseFieldDescriptor (TX5 k).2.2.1 = some (tyX5 k) := by decide +kernel
abbrev cX5_init : ByteArray := prog_7_method_1_code
def yX5_init : MethodName := ⟨RX5, "<init>", "()V"⟩
abbrev cX5_put : ByteArray := prog_7_method_2_code
def yX5_put : MethodName := ⟨RX5, "put", "(I)V"⟩
abbrev cX5_read : ByteArray := prog_7_method_3_code
def yX5_read : MethodName := ⟨RX5, "read", "()V"⟩
abbrev cX5_readSign : ByteArray := prog_7_method_4_code
def yX5_readSign : MethodName := ⟨RX5, "readSign", "()V"⟩
abbrev cX5_readNumber : ByteArray := prog_7_method_5_code
def yX5_readNumber : MethodName := ⟨RX5, "readNumber", "(II)I"⟩
abbrev cX5_readLevel : ByteArray := prog_7_method_6_code
def yX5_readLevel : MethodName := ⟨RX5, "readLevel", "()I"⟩
abbrev cX5_readByte : ByteArray := prog_7_method_7_code
def yX5_readByte : MethodName := ⟨RX5, "readByte", "(I)V"⟩
abbrev cX5_isDigit : ByteArray := prog_7_method_8_code
def yX5_isDigit : MethodName := ⟨RX5, "isDigit", "(I)Z"⟩
def RX6 : String := "SightLegend"
def TX6 : u_T := fun k => match k with
  | 0 => ("SightLegend", "map", "LSightLegend$MapState;", true)
  | 1 => ("SightLegend", "legend", "LSightLegend$Legend;", true)
  | 2 => ("SightLegend", "otherMap", "LSightLegend$MapState;", true)
  | 3 => ("SightLegend", "otherLegend", "LSightLegend$Legend;", true)
  | 4 => ("SightLegend", "text", "LSightLegend$SignText;", true)
  | 5 => ("SightLegend", "saved", "[LSightLegend$MapState;", true)
  | 6 => ("SightLegend", "oldestSaved", "I", false)
  | _ => ("SightLegend", "savedCount", "I", false)
def tyX6 : Nat → FieldType := fun k => match k with
  | 0 => .object "SightLegend$MapState"
  | 1 => .object "SightLegend$Legend"
  | 2 => .object "SightLegend$MapState"
  | 3 => .object "SightLegend$Legend"
  | 4 => .object "SightLegend$SignText"
  | 5 => .array (.object "SightLegend$MapState")
  | 6 => .int
  | _ => .int
abbrev wsX60 : List Cond := u_ws RX6 TX6 8
theorem nmX6 : ∀ a, a < 8 → ∀ b, b < 8 → a ≠ b → (TX6 a).2.1 ≠ (TX6 b).2.1 := by decide +kernel
theorem tyX6_ok : ∀ k, k < 8 → parseFieldDescriptor (TX6 k).2.2.1 = some (tyX6 k) := by decide +kernel
abbrev cX6_init : ByteArray := prog_1_method_1_code
def yX6_init : MethodName := ⟨RX6, "<init>", "()V"⟩
abbrev cX6_addSign : ByteArray := prog_1_method_2_code
def yX6_addSign : MethodName := ⟨RX6, "addSign", "(IIIII)I"⟩
abbrev cX6_removeSign : ByteArray := prog_1_method_3_code
def yX6_removeSign : MethodName := ⟨RX6, "removeSign", "(I)I"⟩
abbrev cX6_moveSign : ByteArray := prog_1_method_4_code
def yX6_moveSign : MethodName := ⟨RX6, "moveSign", "(III)I"⟩
abbrev cX6_setWindow : ByteArray := prog_1_method_5_code
def yX6_setWindow : MethodName := ⟨RX6, "setWindow", "(IIIII)I"⟩
abbrev cX6_set : ByteArray := prog_1_method_6_code
def yX6_set : MethodName := ⟨RX6, "set", "(II)I"⟩
abbrev cX6_setKind : ByteArray := prog_1_method_7_code
def yX6_setKind : MethodName := ⟨RX6, "setKind", "(III)I"⟩
abbrev cX6_setWay : ByteArray := prog_1_method_8_code
def yX6_setWay : MethodName := ⟨RX6, "setWay", "(II)I"⟩
abbrev cX6_limit : ByteArray := prog_1_method_9_code
def yX6_limit : MethodName := ⟨RX6, "limit", "(II)I"⟩
abbrev cX6_value : ByteArray := prog_1_method_10_code
def yX6_value : MethodName := ⟨RX6, "value", "(I)I"⟩
abbrev cX6_sign : ByteArray := prog_1_method_11_code
def yX6_sign : MethodName := ⟨RX6, "sign", "(II)I"⟩
abbrev cX6_kind : ByteArray := prog_1_method_12_code
def yX6_kind : MethodName := ⟨RX6, "kind", "(II)I"⟩
abbrev cX6_lines : ByteArray := prog_1_method_13_code
def yX6_lines : MethodName := ⟨RX6, "lines", "()I"⟩
abbrev cX6_line : ByteArray := prog_1_method_14_code
def yX6_line : MethodName := ⟨RX6, "line", "(II)I"⟩
abbrev cX6_box : ByteArray := prog_1_method_15_code
def yX6_box : MethodName := ⟨RX6, "box", "(I)I"⟩
abbrev cX6_rounds : ByteArray := prog_1_method_16_code
def yX6_rounds : MethodName := ⟨RX6, "rounds", "(I)I"⟩
abbrev cX6_firstLines : ByteArray := prog_1_method_17_code
def yX6_firstLines : MethodName := ⟨RX6, "firstLines", "()I"⟩
abbrev cX6_explained : ByteArray := prog_1_method_18_code
def yX6_explained : MethodName := ⟨RX6, "explained", "()D"⟩
abbrev cX6_linesAt : ByteArray := prog_1_method_19_code
def yX6_linesAt : MethodName := ⟨RX6, "linesAt", "(II)I"⟩
abbrev cX6_bestColumns : ByteArray := prog_1_method_20_code
def yX6_bestColumns : MethodName := ⟨RX6, "bestColumns", "()I"⟩
abbrev cX6_zoomFor : ByteArray := prog_1_method_21_code
def yX6_zoomFor : MethodName := ⟨RX6, "zoomFor", "(I)I"⟩
abbrev cX6_linesSaved : ByteArray := prog_1_method_22_code
def yX6_linesSaved : MethodName := ⟨RX6, "linesSaved", "(I)I"⟩
abbrev cX6_append : ByteArray := prog_1_method_23_code
def yX6_append : MethodName := ⟨RX6, "append", "(I)I"⟩
abbrev cX6_clearText : ByteArray := prog_1_method_24_code
def yX6_clearText : MethodName := ⟨RX6, "clearText", "()I"⟩
abbrev cX6_parse : ByteArray := prog_1_method_25_code
def yX6_parse : MethodName := ⟨RX6, "parse", "()I"⟩
abbrev cX6_undo : ByteArray := prog_1_method_26_code
def yX6_undo : MethodName := ⟨RX6, "undo", "()I"⟩
abbrev cX6_digest : ByteArray := prog_1_method_27_code
def yX6_digest : MethodName := ⟨RX6, "digest", "()J"⟩
abbrev cX6_hashOfKinds : ByteArray := prog_1_method_28_code
def yX6_hashOfKinds : MethodName := ⟨RX6, "hashOfKinds", "(J)J"⟩
abbrev cX6_hashOfSigns : ByteArray := prog_1_method_29_code
def yX6_hashOfSigns : MethodName := ⟨RX6, "hashOfSigns", "(J)J"⟩
abbrev cX6_hashOfLines : ByteArray := prog_1_method_30_code
def yX6_hashOfLines : MethodName := ⟨RX6, "hashOfLines", "(J)J"⟩
abbrev cX6_saveState : ByteArray := prog_1_method_31_code
def yX6_saveState : MethodName := ⟨RX6, "saveState", "()V"⟩
abbrev cX6_numberOf : ByteArray := prog_1_method_32_code
def yX6_numberOf : MethodName := ⟨RX6, "numberOf", "(I)I"⟩
abbrev cX6_signFact : ByteArray := prog_1_method_33_code
def yX6_signFact : MethodName := ⟨RX6, "signFact", "(II)I"⟩
abbrev cX6_kindFact : ByteArray := prog_1_method_34_code
def yX6_kindFact : MethodName := ⟨RX6, "kindFact", "(II)I"⟩
abbrev cX6_roundFact : ByteArray := prog_1_method_35_code
def yX6_roundFact : MethodName := ⟨RX6, "roundFact", "(I)I"⟩
abbrev cX6_demandSign : ByteArray := prog_1_method_36_code
def yX6_demandSign : MethodName := ⟨RX6, "demandSign", "(I)V"⟩
abbrev cX6_demandKind : ByteArray := prog_1_method_37_code
def yX6_demandKind : MethodName := ⟨RX6, "demandKind", "(I)V"⟩
abbrev cX6_demandBelow : ByteArray := prog_1_method_38_code
def yX6_demandBelow : MethodName := ⟨RX6, "demandBelow", "(II)V"⟩
abbrev cX6_demandSpan : ByteArray := prog_1_method_39_code
def yX6_demandSpan : MethodName := ⟨RX6, "demandSpan", "(I)V"⟩
def RX7 : String := "SightLegendModel"
def TX7 : u_T := fun k => match k with
  | 0 => ("SightLegendModel", "s", "[I", true)
  | 1 => ("SightLegendModel", "past", "[I", true)
  | 2 => ("SightLegendModel", "aside", "[I", true)
  | 3 => ("SightLegendModel", "kept", "[I", true)
  | 4 => ("SightLegendModel", "pasts", "I", false)
  | 5 => ("SightLegendModel", "text", "[I", true)
  | 6 => ("SightLegendModel", "typed", "I", false)
  | 7 => ("SightLegendModel", "thrown", "I", false)
  | 8 => ("SightLegendModel", "sight", "[Z", true)
  | 9 => ("SightLegendModel", "line", "[I", true)
  | 10 => ("SightLegendModel", "old", "[I", true)
  | 11 => ("SightLegendModel", "columnOf", "[I", true)
  | 12 => ("SightLegendModel", "placeOf", "[I", true)
  | 13 => ("SightLegendModel", "lines", "I", false)
  | 14 => ("SightLegendModel", "oldLines", "I", false)
  | 15 => ("SightLegendModel", "firstLines", "I", false)
  | 16 => ("SightLegendModel", "rounds", "I", false)
  | 17 => ("SightLegendModel", "isSame", "Z", false)
  | 18 => ("SightLegendModel", "corner", "I", false)
  | 19 => ("SightLegendModel", "boxLeft", "I", false)
  | 20 => ("SightLegendModel", "boxTop", "I", false)
  | 21 => ("SightLegendModel", "boxWide", "I", false)
  | 22 => ("SightLegendModel", "boxHigh", "I", false)
  | 23 => ("SightLegendModel", "firsts", "[I", true)
  | 24 => ("SightLegendModel", "lasts", "[I", true)
  | 25 => ("SightLegendModel", "sums", "[I", true)
  | 26 => ("SightLegendModel", "waits", "[Z", true)
  | 27 => ("SightLegendModel", "spot", "I", false)
  | _ => ("SightLegendModel", "h", "J", false)
def tyX7 : Nat → FieldType := fun k => match k with
  | 0 => .array .int
  | 1 => .array .int
  | 2 => .array .int
  | 3 => .array .int
  | 4 => .int
  | 5 => .array .int
  | 6 => .int
  | 7 => .int
  | 8 => .array .boolean
  | 9 => .array .int
  | 10 => .array .int
  | 11 => .array .int
  | 12 => .array .int
  | 13 => .int
  | 14 => .int
  | 15 => .int
  | 16 => .int
  | 17 => .boolean
  | 18 => .int
  | 19 => .int
  | 20 => .int
  | 21 => .int
  | 22 => .int
  | 23 => .array .int
  | 24 => .array .int
  | 25 => .array .int
  | 26 => .array .boolean
  | 27 => .int
  | _ => .long
abbrev wsX70 : List Cond := u_ws RX7 TX7 29
theorem nmX7 : ∀ a, a < 29 → ∀ b, b < 29 → a ≠ b → (TX7 a).2.1 ≠ (TX7 b).2.1 := by decide +kernel
theorem tyX7_ok : ∀ k, k < 29 → parseFieldDescriptor (TX7 k).2.2.1 = some (tyX7 k) := by decide +kernel
abbrev cX7_init : ByteArray := prog_9_method_1_code
def yX7_init : MethodName := ⟨RX7, "<init>", "()V"⟩
abbrev cX7_thrown : ByteArray := prog_9_method_2_code
def yX7_thrown : MethodName := ⟨RX7, "thrown", "()I"⟩
abbrev cX7_in : ByteArray := prog_9_method_3_code
def yX7_in : MethodName := ⟨RX7, "in", "(III)Z"⟩
abbrev cX7_fails : ByteArray := prog_9_method_4_code
def yX7_fails : MethodName := ⟨RX7, "fails", "(I)I"⟩
abbrev cX7_tells : ByteArray := prog_9_method_5_code
def yX7_tells : MethodName := ⟨RX7, "tells", "(I)I"⟩
abbrev cX7_copies : ByteArray := prog_9_method_6_code
def yX7_copies : MethodName := ⟨RX7, "copies", "([I[I)V"⟩
abbrev cX7_hold : ByteArray := prog_9_method_7_code
def yX7_hold : MethodName := ⟨RX7, "hold", "()V"⟩
abbrev cX7_ends : ByteArray := prog_9_method_8_code
def yX7_ends : MethodName := ⟨RX7, "ends", "(I)I"⟩
abbrev cX7_isKind : ByteArray := prog_9_method_9_code
def yX7_isKind : MethodName := ⟨RX7, "isKind", "(I)Z"⟩
abbrev cX7_isSign : ByteArray := prog_9_method_10_code
def yX7_isSign : MethodName := ⟨RX7, "isSign", "(I)Z"⟩
abbrev cX7_of : ByteArray := prog_9_method_11_code
def yX7_of : MethodName := ⟨RX7, "of", "(II)I"⟩
abbrev cX7_rankOf : ByteArray := prog_9_method_12_code
def yX7_rankOf : MethodName := ⟨RX7, "rankOf", "(I)I"⟩
abbrev cX7_groupOf : ByteArray := prog_9_method_13_code
def yX7_groupOf : MethodName := ⟨RX7, "groupOf", "(I)I"⟩
abbrev cX7_classOf : ByteArray := prog_9_method_14_code
def yX7_classOf : MethodName := ⟨RX7, "classOf", "(I)I"⟩
abbrev cX7_isWithin : ByteArray := prog_9_method_15_code
def yX7_isWithin : MethodName := ⟨RX7, "isWithin", "(I)Z"⟩
abbrev cX7_isShown : ByteArray := prog_9_method_16_code
def yX7_isShown : MethodName := ⟨RX7, "isShown", "(I)Z"⟩
abbrev cX7_shownMany : ByteArray := prog_9_method_17_code
def yX7_shownMany : MethodName := ⟨RX7, "shownMany", "()I"⟩
abbrev cX7_isInSight : ByteArray := prog_9_method_18_code
def yX7_isInSight : MethodName := ⟨RX7, "isInSight", "(I)Z"⟩
abbrev cX7_adds : ByteArray := prog_9_method_19_code
def yX7_adds : MethodName := ⟨RX7, "adds", "(IIIII)V"⟩
abbrev cX7_signsOf : ByteArray := prog_9_method_20_code
def yX7_signsOf : MethodName := ⟨RX7, "signsOf", "(III)I"⟩
abbrev cX7_addsKind : ByteArray := prog_9_method_21_code
def yX7_addsKind : MethodName := ⟨RX7, "addsKind", "(I)V"⟩
abbrev cX7_lowest : ByteArray := prog_9_method_22_code
def yX7_lowest : MethodName := ⟨RX7, "lowest", "(I)I"⟩
abbrev cX7_addsGroup : ByteArray := prog_9_method_23_code
def yX7_addsGroup : MethodName := ⟨RX7, "addsGroup", "(I)V"⟩
abbrev cX7_listsLines : ByteArray := prog_9_method_24_code
def yX7_listsLines : MethodName := ⟨RX7, "listsLines", "()V"⟩
abbrev cX7_isCovered : ByteArray := prog_9_method_25_code
def yX7_isCovered : MethodName := ⟨RX7, "isCovered", "(I)Z"⟩
abbrev cX7_coveredMany : ByteArray := prog_9_method_26_code
def yX7_coveredMany : MethodName := ⟨RX7, "coveredMany", "()I"⟩
abbrev cX7_stands : ByteArray := prog_9_method_27_code
def yX7_stands : MethodName := ⟨RX7, "stands", "(I)V"⟩
abbrev cX7_laysBox : ByteArray := prog_9_method_28_code
def yX7_laysBox : MethodName := ⟨RX7, "laysBox", "()V"⟩
abbrev cX7_areSame : ByteArray := prog_9_method_29_code
def yX7_areSame : MethodName := ⟨RX7, "areSame", "()Z"⟩
abbrev cX7_round : ByteArray := prog_9_method_30_code
def yX7_round : MethodName := ⟨RX7, "round", "()V"⟩
abbrev cX7_makes : ByteArray := prog_9_method_31_code
def yX7_makes : MethodName := ⟨RX7, "makes", "()V"⟩
abbrev cX7_explainedMany : ByteArray := prog_9_method_32_code
def yX7_explainedMany : MethodName := ⟨RX7, "explainedMany", "()I"⟩
abbrev cX7_addSign : ByteArray := prog_9_method_33_code
def yX7_addSign : MethodName := ⟨RX7, "addSign", "(IIIII)I"⟩
abbrev cX7_drops : ByteArray := prog_9_method_34_code
def yX7_drops : MethodName := ⟨RX7, "drops", "(I)V"⟩
abbrev cX7_removeSign : ByteArray := prog_9_method_35_code
def yX7_removeSign : MethodName := ⟨RX7, "removeSign", "(I)I"⟩
abbrev cX7_moveSign : ByteArray := prog_9_method_36_code
def yX7_moveSign : MethodName := ⟨RX7, "moveSign", "(III)I"⟩
abbrev cX7_setWindow : ByteArray := prog_9_method_37_code
def yX7_setWindow : MethodName := ⟨RX7, "setWindow", "(IIIII)I"⟩
abbrev cX7_mostOf : ByteArray := prog_9_method_38_code
def yX7_mostOf : MethodName := ⟨RX7, "mostOf", "(I)I"⟩
abbrev cX7_set : ByteArray := prog_9_method_39_code
def yX7_set : MethodName := ⟨RX7, "set", "(II)I"⟩
abbrev cX7_setKind : ByteArray := prog_9_method_40_code
def yX7_setKind : MethodName := ⟨RX7, "setKind", "(III)I"⟩
abbrev cX7_setWay : ByteArray := prog_9_method_41_code
def yX7_setWay : MethodName := ⟨RX7, "setWay", "(II)I"⟩
abbrev cX7_limit : ByteArray := prog_9_method_42_code
def yX7_limit : MethodName := ⟨RX7, "limit", "(II)I"⟩
abbrev cX7_valueOf : ByteArray := prog_9_method_43_code
def yX7_valueOf : MethodName := ⟨RX7, "valueOf", "(I)I"⟩
abbrev cX7_value : ByteArray := prog_9_method_44_code
def yX7_value : MethodName := ⟨RX7, "value", "(I)I"⟩
abbrev cX7_standsFor : ByteArray := prog_9_method_45_code
def yX7_standsFor : MethodName := ⟨RX7, "standsFor", "(II)Z"⟩
abbrev cX7_lineFor : ByteArray := prog_9_method_46_code
def yX7_lineFor : MethodName := ⟨RX7, "lineFor", "(I)I"⟩
abbrev cX7_signOf : ByteArray := prog_9_method_47_code
def yX7_signOf : MethodName := ⟨RX7, "signOf", "(II)I"⟩
abbrev cX7_sign : ByteArray := prog_9_method_48_code
def yX7_sign : MethodName := ⟨RX7, "sign", "(II)I"⟩
abbrev cX7_linesOf : ByteArray := prog_9_method_49_code
def yX7_linesOf : MethodName := ⟨RX7, "linesOf", "(I)I"⟩
abbrev cX7_kindOf : ByteArray := prog_9_method_50_code
def yX7_kindOf : MethodName := ⟨RX7, "kindOf", "(II)I"⟩
abbrev cX7_kind : ByteArray := prog_9_method_51_code
def yX7_kind : MethodName := ⟨RX7, "kind", "(II)I"⟩
abbrev cX7_lines : ByteArray := prog_9_method_52_code
def yX7_lines : MethodName := ⟨RX7, "lines", "()I"⟩
abbrev cX7_lineOf : ByteArray := prog_9_method_53_code
def yX7_lineOf : MethodName := ⟨RX7, "lineOf", "(II)I"⟩
abbrev cX7_line : ByteArray := prog_9_method_54_code
def yX7_line : MethodName := ⟨RX7, "line", "(II)I"⟩
abbrev cX7_boxOf : ByteArray := prog_9_method_55_code
def yX7_boxOf : MethodName := ⟨RX7, "boxOf", "(I)I"⟩
abbrev cX7_box : ByteArray := prog_9_method_56_code
def yX7_box : MethodName := ⟨RX7, "box", "(I)I"⟩
abbrev cX7_roundsOf : ByteArray := prog_9_method_57_code
def yX7_roundsOf : MethodName := ⟨RX7, "roundsOf", "(I)I"⟩
abbrev cX7_rounds : ByteArray := prog_9_method_58_code
def yX7_rounds : MethodName := ⟨RX7, "rounds", "(I)I"⟩
abbrev cX7_firstLines : ByteArray := prog_9_method_59_code
def yX7_firstLines : MethodName := ⟨RX7, "firstLines", "()I"⟩
abbrev cX7_explained : ByteArray := prog_9_method_60_code
def yX7_explained : MethodName := ⟨RX7, "explained", "()D"⟩
abbrev cX7_linesAt : ByteArray := prog_9_method_61_code
def yX7_linesAt : MethodName := ⟨RX7, "linesAt", "(II)I"⟩
abbrev cX7_bestColumns : ByteArray := prog_9_method_62_code
def yX7_bestColumns : MethodName := ⟨RX7, "bestColumns", "()I"⟩
abbrev cX7_zoomFor : ByteArray := prog_9_method_63_code
def yX7_zoomFor : MethodName := ⟨RX7, "zoomFor", "(I)I"⟩
abbrev cX7_linesSaved : ByteArray := prog_9_method_64_code
def yX7_linesSaved : MethodName := ⟨RX7, "linesSaved", "(I)I"⟩
abbrev cX7_append : ByteArray := prog_9_method_65_code
def yX7_append : MethodName := ⟨RX7, "append", "(I)I"⟩
abbrev cX7_clearText : ByteArray := prog_9_method_66_code
def yX7_clearText : MethodName := ⟨RX7, "clearText", "()I"⟩
abbrev cX7_isDigit : ByteArray := prog_9_method_67_code
def yX7_isDigit : MethodName := ⟨RX7, "isDigit", "()Z"⟩
abbrev cX7_isByte : ByteArray := prog_9_method_68_code
def yX7_isByte : MethodName := ⟨RX7, "isByte", "(I)Z"⟩
abbrev cX7_isNumber : ByteArray := prog_9_method_69_code
def yX7_isNumber : MethodName := ⟨RX7, "isNumber", "(III)Z"⟩
abbrev cX7_isSignText : ByteArray := prog_9_method_70_code
def yX7_isSignText : MethodName := ⟨RX7, "isSignText", "()Z"⟩
abbrev cX7_parse : ByteArray := prog_9_method_71_code
def yX7_parse : MethodName := ⟨RX7, "parse", "()I"⟩
abbrev cX7_undo : ByteArray := prog_9_method_72_code
def yX7_undo : MethodName := ⟨RX7, "undo", "()I"⟩
abbrev cX7_mix : ByteArray := prog_9_method_73_code
def yX7_mix : MethodName := ⟨RX7, "mix", "(I)V"⟩
abbrev cX7_mixLegend : ByteArray := prog_9_method_74_code
def yX7_mixLegend : MethodName := ⟨RX7, "mixLegend", "()V"⟩
abbrev cX7_digest : ByteArray := prog_9_method_75_code
def yX7_digest : MethodName := ⟨RX7, "digest", "()J"⟩
def RJ9 : String := "java/lang/Math"
def TJ9 : u_T := fun k => match k with
  | _ => ("", "", "", false)
def tyJ9 : Nat → FieldType := fun k => match k with
  | _ => .int
abbrev wsJ90 : List Cond := u_ws RJ9 TJ9 0
theorem nmJ9 : ∀ a, a < 0 → ∀ b, b < 0 → a ≠ b → (TJ9 a).2.1 ≠ (TJ9 b).2.1 := by decide +kernel
theorem tyJ9_ok : ∀ k, k < 0 → parseFieldDescriptor (TJ9 k).2.2.1 = some (tyJ9 k) := by decide +kernel
abbrev cJ9_max_7cf53 : ByteArray := prog_14_method_65_code
def yJ9_max_7cf53 : MethodName := ⟨RJ9, "max", "(II)I"⟩
abbrev cJ9_min_7cf53 : ByteArray := prog_14_method_69_code
def yJ9_min_7cf53 : MethodName := ⟨RJ9, "min", "(II)I"⟩
def RJ0 : String := "java/lang/String"
def TJ0 : u_T := fun k => match k with
  | _ => ("", "", "", false)
def tyJ0 : Nat → FieldType := fun k => match k with
  | _ => .int
abbrev wsJ00 : List Cond := u_ws RJ0 TJ0 0
theorem nmJ0 : ∀ a, a < 0 → ∀ b, b < 0 → a ≠ b → (TJ0 a).2.1 ≠ (TJ0 b).2.1 := by decide +kernel
theorem tyJ0_ok : ∀ k, k < 0 → parseFieldDescriptor (TJ0 k).2.2.1 = some (tyJ0 k) := by decide +kernel
def RJ10 : String := "java/lang/System"
def TJ10 : u_T := fun k => match k with
  | _ => ("", "", "", false)
def tyJ10 : Nat → FieldType := fun k => match k with
  | _ => .int
abbrev wsJ100 : List Cond := u_ws RJ10 TJ10 0
theorem nmJ10 : ∀ a, a < 0 → ∀ b, b < 0 → a ≠ b → (TJ10 a).2.1 ≠ (TJ10 b).2.1 := by decide +kernel
theorem tyJ10_ok : ∀ k, k < 0 → parseFieldDescriptor (TJ10 k).2.2.1 = some (tyJ10 k) := by decide +kernel
def RL : String := "SightLegendLaw"
abbrev cL_addSign : ByteArray := method_3_code
def yL_addSign : MethodName := ⟨RL, "addSign", "(LSightLegend;IIIII[J)I"⟩
abbrev cL_removeSign : ByteArray := method_4_code
def yL_removeSign : MethodName := ⟨RL, "removeSign", "(LSightLegend;I[J)I"⟩
abbrev cL_moveSign : ByteArray := method_5_code
def yL_moveSign : MethodName := ⟨RL, "moveSign", "(LSightLegend;III[J)I"⟩
abbrev cL_setWindow : ByteArray := method_6_code
def yL_setWindow : MethodName := ⟨RL, "setWindow", "(LSightLegend;IIIII[J)I"⟩
abbrev cL_set : ByteArray := method_7_code
def yL_set : MethodName := ⟨RL, "set", "(LSightLegend;II[J)I"⟩
abbrev cL_setKind : ByteArray := method_8_code
def yL_setKind : MethodName := ⟨RL, "setKind", "(LSightLegend;III[J)I"⟩
abbrev cL_setWay : ByteArray := method_9_code
def yL_setWay : MethodName := ⟨RL, "setWay", "(LSightLegend;II[J)I"⟩
abbrev cL_limit : ByteArray := method_10_code
def yL_limit : MethodName := ⟨RL, "limit", "(LSightLegend;II[J)I"⟩
abbrev cL_value : ByteArray := method_11_code
def yL_value : MethodName := ⟨RL, "value", "(LSightLegend;I[J)I"⟩
abbrev cL_sign : ByteArray := method_12_code
def yL_sign : MethodName := ⟨RL, "sign", "(LSightLegend;II[J)I"⟩
abbrev cL_kind : ByteArray := method_13_code
def yL_kind : MethodName := ⟨RL, "kind", "(LSightLegend;II[J)I"⟩
abbrev cL_line : ByteArray := method_14_code
def yL_line : MethodName := ⟨RL, "line", "(LSightLegend;II[J)I"⟩
abbrev cL_box : ByteArray := method_15_code
def yL_box : MethodName := ⟨RL, "box", "(LSightLegend;I[J)I"⟩
abbrev cL_rounds : ByteArray := method_16_code
def yL_rounds : MethodName := ⟨RL, "rounds", "(LSightLegend;I[J)I"⟩
abbrev cL_linesAt : ByteArray := method_17_code
def yL_linesAt : MethodName := ⟨RL, "linesAt", "(LSightLegend;II[J)I"⟩
abbrev cL_zoomFor : ByteArray := method_18_code
def yL_zoomFor : MethodName := ⟨RL, "zoomFor", "(LSightLegend;I[J)I"⟩
abbrev cL_linesSaved : ByteArray := method_19_code
def yL_linesSaved : MethodName := ⟨RL, "linesSaved", "(LSightLegend;I[J)I"⟩
abbrev cL_append : ByteArray := method_20_code
def yL_append : MethodName := ⟨RL, "append", "(LSightLegend;I[J)I"⟩
abbrev cL_undo : ByteArray := method_21_code
def yL_undo : MethodName := ⟨RL, "undo", "(LSightLegend;[J)I"⟩
abbrev cL_law : ByteArray := code
def yL_law : MethodName := ⟨RL, "law", "([I)Z"⟩
def wsL_law0_r1 : List Cond := [Cond.classLink RL 8 RX6, Cond.instantiable RX6 8, Cond.initialized RX6, Cond.classLink RL 78 RX7, Cond.instantiable RX7 29, Cond.initialized RX7, Cond.arrayClass .long, Cond.methodLink RL 77 yX6_init, Cond.instanceMethod yX6_init, Cond.code yX6_init cX6_init 2 none, Cond.methodLink RX6 1 objectInit, Cond.instanceMethod objectInit, Cond.code objectInit ⟨#[0xb1]⟩ 1 none, Cond.classLink RX6 7 RX3, Cond.instantiable RX3 13, Cond.initialized RX3, Cond.fieldLink RX6 10 "SightLegend" "map" "LSightLegend$MapState;", Cond.classLink RX6 16 RX1, Cond.instantiable RX1 12, Cond.initialized RX1, Cond.fieldLink RX6 19 "SightLegend" "legend" "LSightLegend$Legend;", Cond.fieldLink RX6 23 "SightLegend" "otherMap" "LSightLegend$MapState;", Cond.fieldLink RX6 26 "SightLegend" "otherLegend" "LSightLegend$Legend;", Cond.classLink RX6 29 RX5]
def wsL_law0_r2 : List Cond := [Cond.instantiable RX5 5, Cond.initialized RX5, Cond.fieldLink RX6 32 "SightLegend" "text" "LSightLegend$SignText;", Cond.fieldLink RX6 36 "SightLegend" "saved" "[LSightLegend$MapState;", Cond.methodLink RX6 9 yX3_init, Cond.instanceMethod yX3_init, Cond.code yX3_init cX3_init 2 none, Cond.methodLink RX3 3 objectInit, Cond.arrayClass .int, Cond.fieldLink RX3 9 "SightLegend$MapState" "signKind" "[I", Cond.fieldLink RX3 15 "SightLegend$MapState" "signColumn" "[I", Cond.fieldLink RX3 18 "SightLegend$MapState" "signRow" "[I", Cond.fieldLink RX3 21 "SightLegend$MapState" "signValue" "[I", Cond.fieldLink RX3 24 "SightLegend$MapState" "signLevel" "[I", Cond.fieldLink RX3 27 "SightLegend$MapState" "rank" "[I", Cond.fieldLink RX3 30 "SightLegend$MapState" "group" "[I", Cond.fieldLink RX3 33 "SightLegend$MapState" "limitCount" "[I", Cond.fieldLink RX3 36 "SightLegend$MapState" "limits" "[I", Cond.fieldLink RX3 39 "SightLegend$MapState" "way" "[I", Cond.fieldLink RX3 42 "SightLegend$MapState" "window" "[I", Cond.fieldLink RX3 45 "SightLegend$MapState" "settings" "[I", Cond.instanceMethod yX1_init, Cond.code yX1_init cX1_init 1 none, Cond.methodLink RX1 3 objectInit]
def wsL_law0_r3 : List Cond := [Cond.arrayClass .boolean, Cond.fieldLink RX1 9 "SightLegend$Legend" "shown" "[Z", Cond.fieldLink RX1 15 "SightLegend$Legend" "inSight" "[Z", Cond.classLink RX1 18 RX4, Cond.instantiable RX4 6, Cond.initialized RX4, Cond.fieldLink RX1 21 "SightLegend$Legend" "ranges" "LSightLegend$Ranges;", Cond.classLink RX1 25 RX2, Cond.instantiable RX2 14, Cond.initialized RX2, Cond.fieldLink RX1 28 "SightLegend$Legend" "now" "LSightLegend$Lines;", Cond.fieldLink RX1 32 "SightLegend$Legend" "before" "LSightLegend$Lines;", Cond.classLink RX1 35 RX0, Cond.instantiable RX0 6, Cond.initialized RX0, Cond.fieldLink RX1 38 "SightLegend$Legend" "box" "LSightLegend$Box;", Cond.instanceMethod yX4_init, Cond.code yX4_init cX4_init 1 none, Cond.methodLink RX4 3 objectInit, Cond.fieldLink RX4 9 "SightLegend$Ranges" "total" "[I", Cond.fieldLink RX4 15 "SightLegend$Ranges" "classSigns" "[I", Cond.fieldLink RX4 18 "SightLegend$Ranges" "size" "[I", Cond.fieldLink RX4 21 "SightLegend$Ranges" "first" "[I", Cond.fieldLink RX4 24 "SightLegend$Ranges" "last" "[I"]
def wsL_law0_r4 : List Cond := [Cond.fieldLink RX4 27 "SightLegend$Ranges" "signs" "[I", Cond.instanceMethod yX2_init, Cond.code yX2_init cX2_init 1 none, Cond.methodLink RX2 3 objectInit, Cond.fieldLink RX2 9 "SightLegend$Lines" "type" "[I", Cond.fieldLink RX2 15 "SightLegend$Lines" "kind" "[I", Cond.fieldLink RX2 18 "SightLegend$Lines" "group" "[I", Cond.fieldLink RX2 21 "SightLegend$Lines" "first" "[I", Cond.fieldLink RX2 24 "SightLegend$Lines" "last" "[I", Cond.fieldLink RX2 27 "SightLegend$Lines" "signs" "[I", Cond.fieldLink RX2 30 "SightLegend$Lines" "column" "[I", Cond.fieldLink RX2 33 "SightLegend$Lines" "place" "[I", Cond.fieldLink RX2 36 "SightLegend$Lines" "order" "[I", Cond.fieldLink RX2 39 "SightLegend$Lines" "groupDone" "[Z", Cond.instanceMethod yX0_init, Cond.code yX0_init cX0_init 1 none, Cond.methodLink RX0 3 objectInit, Cond.instanceMethod yX5_init, Cond.code yX5_init cX5_init 1 none, Cond.methodLink RX5 3 objectInit, Cond.fieldLink RX5 9 "SightLegend$SignText" "bytes" "[I", Cond.classLink RX5 15 RX3, Cond.fieldLink RX5 18 "SightLegend$SignText" "signs" "LSightLegend$MapState;", Cond.methodLink RX5 17 yX3_init]
def wsL_law0_r5 : List Cond := [Cond.methodLink RL 80 yX7_init, Cond.instanceMethod yX7_init, Cond.code yX7_init cX7_init 2 none, Cond.methodLink RX7 1 objectInit, Cond.fieldLink RX7 7 "SightLegendModel" "s" "[I", Cond.fieldLink RX7 13 "SightLegendModel" "past" "[I", Cond.fieldLink RX7 16 "SightLegendModel" "aside" "[I", Cond.fieldLink RX7 19 "SightLegendModel" "kept" "[I", Cond.fieldLink RX7 22 "SightLegendModel" "text" "[I", Cond.fieldLink RX7 25 "SightLegendModel" "sight" "[Z", Cond.fieldLink RX7 29 "SightLegendModel" "line" "[I", Cond.fieldLink RX7 32 "SightLegendModel" "old" "[I", Cond.fieldLink RX7 35 "SightLegendModel" "columnOf" "[I", Cond.fieldLink RX7 38 "SightLegendModel" "placeOf" "[I", Cond.fieldLink RX7 41 "SightLegendModel" "firsts" "[I", Cond.fieldLink RX7 44 "SightLegendModel" "lasts" "[I", Cond.fieldLink RX7 47 "SightLegendModel" "sums" "[I", Cond.fieldLink RX7 50 "SightLegendModel" "waits" "[Z", Cond.methodLink RL 81 yL_addSign, Cond.static yL_addSign, Cond.initialized RL, Cond.codeWith yL_addSign cL_addSign 8 (some .int) [(0, 16, 19, 13), (0, 16, 23, 15), (0, 16, 27, 17)], Cond.classLink RL 13 "java/lang/IndexOutOfBoundsException", Cond.classLink RL 15 "java/lang/IllegalArgumentException"]
def wsL_law0_r6 : List Cond := [Cond.classLink RL 17 "java/lang/IllegalStateException", Cond.methodLink RL 7 yX6_addSign, Cond.instanceMethod yX6_addSign, Cond.selects RX6 yX6_addSign yX6_addSign, Cond.code yX6_addSign cX6_addSign 6 (some .int), Cond.classLink RX6 52 "java/lang/IllegalStateException", Cond.initialized "java/lang/IllegalStateException", Cond.fieldLink RX6 48 "SightLegend$MapState" "signCount" "I", Cond.methodLink RX6 40 yX6_demandKind, Cond.static yX6_demandKind, Cond.code yX6_demandKind cX6_demandKind 1 none, Cond.classLink RX6 106 "java/lang/IndexOutOfBoundsException", Cond.initialized "java/lang/IndexOutOfBoundsException", Cond.methodLink RX6 44 yX6_demandBelow, Cond.static yX6_demandBelow, Cond.code yX6_demandBelow cX6_demandBelow 2 none, Cond.classLink RX6 92 "java/lang/IllegalArgumentException", Cond.initialized "java/lang/IllegalArgumentException", Cond.methodLink RX6 59 yX6_saveState, Cond.instanceMethod yX6_saveState, Cond.selects RX6 yX6_saveState yX6_saveState, Cond.code yX6_saveState cX6_saveState 2 none, Cond.fieldLink RX6 222 "SightLegend" "savedCount" "I", Cond.fieldLink RX6 227 "SightLegend" "oldestSaved" "I"]
def wsL_law0_r7 : List Cond := [Cond.fieldLink RX6 183 "SightLegend$Legend" "stands" "Z", Cond.methodLink RX6 180 yX3_copyFrom, Cond.instanceMethod yX3_copyFrom, Cond.selects RX3 yX3_copyFrom yX3_copyFrom, Cond.code yX3_copyFrom cX3_copyFrom 2 none, Cond.methodLink RX3 52 arraycopyName, Cond.native arraycopyName, Cond.static arraycopyName, Cond.initialized "java/lang/System", Cond.methodLink RX3 48 yX3_takeSigns, Cond.instanceMethod yX3_takeSigns, Cond.selects RX3 yX3_takeSigns yX3_takeSigns, Cond.code yX3_takeSigns cX3_takeSigns 2 none, Cond.fieldLink RX3 58 "SightLegend$MapState" "signCount" "I", Cond.methodLink RX6 62 yX3_putSign, Cond.instanceMethod yX3_putSign, Cond.selects RX3 yX3_putSign yX3_putSign, Cond.code yX3_putSign cX3_putSign 6 none, Cond.methodLink RL 86 yX7_addSign, Cond.instanceMethod yX7_addSign, Cond.selects RX7 yX7_addSign yX7_addSign, Cond.code yX7_addSign cX7_addSign 7 (some .int), Cond.methodLink RX7 167 yX7_isKind, Cond.static yX7_isKind]
def wsL_law0_r8 : List Cond := [Cond.code yX7_isKind cX7_isKind 1 (some .boolean), Cond.methodLink RX7 68 yX7_in, Cond.static yX7_in, Cond.code yX7_in cX7_in 3 (some .boolean), Cond.methodLink RX7 170 yX7_fails, Cond.instanceMethod yX7_fails, Cond.selects RX7 yX7_fails yX7_fails, Cond.code yX7_fails cX7_fails 2 (some .int), Cond.fieldLink RX7 53 "SightLegendModel" "thrown" "I", Cond.methodLink RX7 173 yX7_hold, Cond.instanceMethod yX7_hold, Cond.selects RX7 yX7_hold yX7_hold, Cond.code yX7_hold cX7_hold 1 none, Cond.methodLink RX7 57 yX7_copies, Cond.static yX7_copies, Cond.code yX7_copies cX7_copies 3 none, Cond.methodLink RX7 176 yX7_ends, Cond.instanceMethod yX7_ends, Cond.selects RX7 yX7_ends yX7_ends, Cond.code yX7_ends cX7_ends 3 (some .int), Cond.fieldLink RX7 61 "SightLegendModel" "pasts" "I", Cond.methodLink RX7 64 yX7_tells, Cond.instanceMethod yX7_tells, Cond.selects RX7 yX7_tells yX7_tells]
def wsL_law0_r9 : List Cond := [Cond.code yX7_tells cX7_tells 2 (some .int), Cond.methodLink RL 87 yX7_thrown, Cond.instanceMethod yX7_thrown, Cond.selects RX7 yX7_thrown yX7_thrown, Cond.code yX7_thrown cX7_thrown 1 (some .int), Cond.methodLink RL 90 yL_removeSign, Cond.static yL_removeSign, Cond.codeWith yL_removeSign cL_removeSign 4 (some .int) [(0, 9, 12, 13)], Cond.methodLink RL 19 yX6_removeSign, Cond.instanceMethod yX6_removeSign, Cond.selects RX6 yX6_removeSign yX6_removeSign, Cond.code yX6_removeSign cX6_removeSign 2 (some .int), Cond.methodLink RX6 66 yX6_demandSign, Cond.instanceMethod yX6_demandSign, Cond.selects RX6 yX6_demandSign yX6_demandSign, Cond.code yX6_demandSign cX6_demandSign 2 none, Cond.methodLink RX6 69 yX3_dropSign, Cond.instanceMethod yX3_dropSign, Cond.selects RX3 yX3_dropSign yX3_dropSign, Cond.code yX3_dropSign cX3_dropSign 3 none, Cond.methodLink RL 93 yX7_removeSign, Cond.instanceMethod yX7_removeSign, Cond.selects RX7 yX7_removeSign yX7_removeSign, Cond.code yX7_removeSign cX7_removeSign 2 (some .int)]
def wsL_law0_r10 : List Cond := [Cond.methodLink RX7 179 yX7_isSign, Cond.instanceMethod yX7_isSign, Cond.selects RX7 yX7_isSign yX7_isSign, Cond.code yX7_isSign cX7_isSign 2 (some .boolean), Cond.methodLink RX7 182 yX7_drops, Cond.instanceMethod yX7_drops, Cond.selects RX7 yX7_drops yX7_drops, Cond.code yX7_drops cX7_drops 3 none, Cond.methodLink RL 94 yL_moveSign, Cond.static yL_moveSign, Cond.codeWith yL_moveSign cL_moveSign 6 (some .int) [(0, 12, 15, 13), (0, 12, 19, 15)], Cond.methodLink RL 23 yX6_moveSign, Cond.instanceMethod yX6_moveSign, Cond.selects RX6 yX6_moveSign yX6_moveSign, Cond.code yX6_moveSign cX6_moveSign 5 (some .int), Cond.fieldLink RX6 72 "SightLegend$MapState" "signColumn" "[I", Cond.fieldLink RX6 76 "SightLegend$MapState" "signRow" "[I", Cond.methodLink RL 97 yX7_moveSign, Cond.instanceMethod yX7_moveSign, Cond.selects RX7 yX7_moveSign yX7_moveSign, Cond.code yX7_moveSign cX7_moveSign 5 (some .int), Cond.methodLink RX7 72 yX7_of, Cond.instanceMethod yX7_of, Cond.selects RX7 yX7_of yX7_of]
def wsL_law0_r11 : List Cond := [Cond.code yX7_of cX7_of 3 (some .int), Cond.methodLink RL 98 yL_setWindow, Cond.static yL_setWindow, Cond.codeWith yL_setWindow cL_setWindow 8 (some .int) [(0, 16, 19, 15)], Cond.methodLink RL 27 yX6_setWindow, Cond.instanceMethod yX6_setWindow, Cond.selects RX6 yX6_setWindow yX6_setWindow, Cond.code yX6_setWindow cX6_setWindow 6 (some .int), Cond.fieldLink RX6 82 "SightLegend$MapState" "window" "[I", Cond.methodLink RX6 79 yX6_demandSpan, Cond.static yX6_demandSpan, Cond.code yX6_demandSpan cX6_demandSpan 1 none, Cond.methodLink RX6 85 yX3_countShown, Cond.instanceMethod yX3_countShown, Cond.selects RX3 yX3_countShown yX3_countShown, Cond.code yX3_countShown cX3_countShown 3 (some .int), Cond.methodLink RX3 66 yX3_isShown, Cond.instanceMethod yX3_isShown, Cond.selects RX3 yX3_isShown yX3_isShown, Cond.code yX3_isShown cX3_isShown 2 (some .boolean), Cond.methodLink RX3 62 yX3_isInWindow, Cond.instanceMethod yX3_isInWindow, Cond.selects RX3 yX3_isInWindow yX3_isInWindow, Cond.code yX3_isInWindow cX3_isInWindow 4 (some .boolean)]
def wsL_law0_r12 : List Cond := [Cond.methodLink RL 100 yX7_setWindow, Cond.instanceMethod yX7_setWindow, Cond.selects RX7 yX7_setWindow yX7_setWindow, Cond.code yX7_setWindow cX7_setWindow 6 (some .int), Cond.methodLink RX7 185 yX7_shownMany, Cond.instanceMethod yX7_shownMany, Cond.selects RX7 yX7_shownMany yX7_shownMany, Cond.code yX7_shownMany cX7_shownMany 3 (some .int), Cond.methodLink RX7 80 yX7_isShown, Cond.instanceMethod yX7_isShown, Cond.selects RX7 yX7_isShown yX7_isShown, Cond.code yX7_isShown cX7_isShown 2 (some .boolean), Cond.methodLink RX7 76 yX7_isWithin, Cond.instanceMethod yX7_isWithin, Cond.selects RX7 yX7_isWithin yX7_isWithin, Cond.code yX7_isWithin cX7_isWithin 2 (some .boolean), Cond.methodLink RL 101 yL_set, Cond.static yL_set, Cond.codeWith yL_set cL_set 5 (some .int) [(0, 10, 13, 15)], Cond.methodLink RL 30 yX6_set, Cond.instanceMethod yX6_set, Cond.selects RX6 yX6_set yX6_set, Cond.code yX6_set cX6_set 4 (some .int), Cond.fieldLink RX6 89 "SightLegend" "HIGHEST_SETTING" "[I"]
def wsL_law0_r13 : List Cond := [Cond.fieldLink RX6 97 "SightLegend$MapState" "settings" "[I", Cond.methodLink RL 104 yX7_set, Cond.instanceMethod yX7_set, Cond.selects RX7 yX7_set yX7_set, Cond.code yX7_set cX7_set 4 (some .int), Cond.methodLink RX7 188 yX7_mostOf, Cond.static yX7_mostOf, Cond.code yX7_mostOf cX7_mostOf 1 (some .int), Cond.methodLink RL 105 yL_setKind, Cond.static yL_setKind, Cond.codeWith yL_setKind cL_setKind 6 (some .int) [(0, 12, 15, 13), (0, 12, 19, 15)], Cond.methodLink RL 34 yX6_setKind, Cond.instanceMethod yX6_setKind, Cond.selects RX6 yX6_setKind yX6_setKind, Cond.code yX6_setKind cX6_setKind 5 (some .int), Cond.fieldLink RX6 100 "SightLegend$MapState" "rank" "[I", Cond.fieldLink RX6 103 "SightLegend$MapState" "group" "[I", Cond.methodLink RL 107 yX7_setKind, Cond.instanceMethod yX7_setKind, Cond.selects RX7 yX7_setKind yX7_setKind, Cond.code yX7_setKind cX7_setKind 5 (some .int), Cond.methodLink RX7 100 yX7_rankOf, Cond.instanceMethod yX7_rankOf, Cond.selects RX7 yX7_rankOf yX7_rankOf]
def wsL_law0_r14 : List Cond := [Cond.code yX7_rankOf cX7_rankOf 2 (some .int), Cond.methodLink RL 108 yL_setWay, Cond.static yL_setWay, Cond.codeWith yL_setWay cL_setWay 5 (some .int) [(0, 10, 13, 13), (0, 10, 17, 15)], Cond.methodLink RL 37 yX6_setWay, Cond.instanceMethod yX6_setWay, Cond.selects RX6 yX6_setWay yX6_setWay, Cond.code yX6_setWay cX6_setWay 4 (some .int), Cond.fieldLink RX6 111 "SightLegend$MapState" "way" "[I", Cond.methodLink RL 110 yX7_setWay, Cond.instanceMethod yX7_setWay, Cond.selects RX7 yX7_setWay yX7_setWay, Cond.code yX7_setWay cX7_setWay 4 (some .int), Cond.methodLink RL 111 yL_limit, Cond.static yL_limit, Cond.codeWith yL_limit cL_limit 5 (some .int) [(0, 10, 13, 13), (0, 10, 17, 15), (0, 10, 21, 17)], Cond.methodLink RL 40 yX6_limit, Cond.instanceMethod yX6_limit, Cond.selects RX6 yX6_limit yX6_limit, Cond.code yX6_limit cX6_limit 4 (some .int), Cond.fieldLink RX6 120 "SightLegend$MapState" "limitCount" "[I", Cond.methodLink RX6 116 yX3_hasLimit, Cond.instanceMethod yX3_hasLimit, Cond.selects RX3 yX3_hasLimit yX3_hasLimit]
def wsL_law0_r15 : List Cond := [Cond.code yX3_hasLimit cX3_hasLimit 4 (some .boolean), Cond.methodLink RX6 125 yX3_dropLimit, Cond.instanceMethod yX3_dropLimit, Cond.selects RX3 yX3_dropLimit yX3_dropLimit, Cond.code yX3_dropLimit cX3_dropLimit 7 none, Cond.methodLink RX6 128 yX3_putLimit, Cond.instanceMethod yX3_putLimit, Cond.selects RX3 yX3_putLimit yX3_putLimit, Cond.code yX3_putLimit cX3_putLimit 5 none, Cond.methodLink RL 113 yX7_limit, Cond.instanceMethod yX7_limit, Cond.selects RX7 yX7_limit yX7_limit, Cond.code yX7_limit cX7_limit 7 (some .int), Cond.methodLink RL 114 yL_value, Cond.static yL_value, Cond.codeWith yL_value cL_value 4 (some .int) [(0, 9, 12, 15)], Cond.methodLink RL 43 yX6_value, Cond.instanceMethod yX6_value, Cond.selects RX6 yX6_value yX6_value, Cond.code yX6_value cX6_value 2 (some .int), Cond.methodLink RX6 131 yX1_make, Cond.instanceMethod yX1_make, Cond.selects RX1 yX1_make yX1_make, Cond.code yX1_make cX1_make 3 none]
def wsL_law0_r16 : List Cond := [Cond.fieldLink RX1 42 "SightLegend$Legend" "stands" "Z", Cond.fieldLink RX1 50 "SightLegend$Legend" "stays" "Z", Cond.fieldLink RX1 60 "SightLegend$Legend" "explainedCount" "I", Cond.methodLink RX1 46 yX1_seeAllShown, Cond.instanceMethod yX1_seeAllShown, Cond.selects RX1 yX1_seeAllShown yX1_seeAllShown, Cond.code yX1_seeAllShown cX1_seeAllShown 3 none, Cond.fieldLink RX1 64 "SightLegend$Legend" "shownCount" "I", Cond.fieldLink RX1 67 "SightLegend$MapState" "signCount" "I", Cond.methodLink RX1 72 yX3_isShown, Cond.methodLink RX1 53 yX1_hideCovered, Cond.instanceMethod yX1_hideCovered, Cond.selects RX1 yX1_hideCovered yX1_hideCovered, Cond.code yX1_hideCovered cX1_hideCovered 3 none, Cond.methodLink RX1 76 yX0_covers, Cond.instanceMethod yX0_covers, Cond.selects RX0 yX0_covers yX0_covers, Cond.code yX0_covers cX0_covers 5 (some .boolean), Cond.fieldLink RX0 74 "SightLegend$MapState" "signColumn" "[I", Cond.fieldLink RX0 61 "SightLegend$Box" "left" "I", Cond.fieldLink RX0 77 "SightLegend$MapState" "signRow" "[I", Cond.fieldLink RX0 64 "SightLegend$Box" "top" "I", Cond.fieldLink RX0 58 "SightLegend$Box" "corner" "I", Cond.fieldLink RX0 38 "SightLegend$Box" "width" "I"]
def wsL_law0_r17 : List Cond := [Cond.fieldLink RX0 44 "SightLegend$Box" "height" "I", Cond.methodLink RX1 56 yX1_makeRound, Cond.instanceMethod yX1_makeRound, Cond.selects RX1 yX1_makeRound yX1_makeRound, Cond.code yX1_makeRound cX1_makeRound 3 none, Cond.fieldLink RX1 92 "SightLegend$MapState" "settings" "[I", Cond.fieldLink RX1 104 "SightLegend$Legend" "roundCount" "I", Cond.fieldLink RX1 107 "SightLegend$Lines" "size" "I", Cond.fieldLink RX1 110 "SightLegend$Legend" "firstLineCount" "I", Cond.methodLink RX1 80 yX2_copyFrom, Cond.instanceMethod yX2_copyFrom, Cond.selects RX2 yX2_copyFrom yX2_copyFrom, Cond.code yX2_copyFrom cX2_copyFrom 3 none, Cond.fieldLink RX2 43 "SightLegend$Lines" "size" "I", Cond.methodLink RX1 84 yX4_build, Cond.instanceMethod yX4_build, Cond.selects RX4 yX4_build yX4_build, Cond.code yX4_build cX4_build 6 none, Cond.fieldLink RX4 38 "SightLegend$MapState" "settings" "[I", Cond.methodLink RX4 43 Lib.Math.max.name, Cond.static Lib.Math.max.name, Cond.initialized "java/lang/Math", Cond.code Lib.Math.max.name Lib.Math.max.code 2 (some .int), Cond.methodLink RX4 30 yX4_countSigns]
def wsL_law0_r18 : List Cond := [Cond.instanceMethod yX4_countSigns, Cond.selects RX4 yX4_countSigns yX4_countSigns, Cond.code yX4_countSigns cX4_countSigns 5 none, Cond.fieldLink RX4 52 "SightLegend$MapState" "signCount" "I", Cond.fieldLink RX4 56 "SightLegend$MapState" "signKind" "[I", Cond.methodLink RX4 59 yX3_classOf, Cond.instanceMethod yX3_classOf, Cond.selects RX3 yX3_classOf yX3_classOf, Cond.code yX3_classOf cX3_classOf 5 (some .int), Cond.methodLink RX4 34 yX4_takeClasses, Cond.instanceMethod yX4_takeClasses, Cond.selects RX4 yX4_takeClasses yX4_takeClasses, Cond.code yX4_takeClasses cX4_takeClasses 5 none, Cond.methodLink RX4 49 yX4_joinFewest, Cond.instanceMethod yX4_joinFewest, Cond.selects RX4 yX4_joinFewest yX4_joinFewest, Cond.code yX4_joinFewest cX4_joinFewest 6 none, Cond.methodLink RX1 88 yX2_compose, Cond.instanceMethod yX2_compose, Cond.selects RX2 yX2_compose yX2_compose, Cond.code yX2_compose cX2_compose 6 none, Cond.fieldLink RX2 51 "SightLegend$Lines" "orderSize" "I", Cond.fieldLink RX2 54 "SightLegend$MapState" "group" "[I", Cond.methodLink RX2 47 yX2_orderKinds]
def wsL_law0_r19 : List Cond := [Cond.instanceMethod yX2_orderKinds, Cond.selects RX2 yX2_orderKinds yX2_orderKinds, Cond.code yX2_orderKinds cX2_orderKinds 5 none, Cond.fieldLink RX2 65 "SightLegend$Ranges" "size" "[I", Cond.fieldLink RX2 69 "SightLegend$MapState" "rank" "[I", Cond.methodLink RX2 57 yX2_addKindLines, Cond.instanceMethod yX2_addKindLines, Cond.selects RX2 yX2_addKindLines yX2_addKindLines, Cond.code yX2_addKindLines cX2_addKindLines 6 none, Cond.fieldLink RX2 82 "SightLegend$Ranges" "first" "[I", Cond.fieldLink RX2 83 "SightLegend$Ranges" "last" "[I", Cond.fieldLink RX2 84 "SightLegend$Ranges" "signs" "[I", Cond.methodLink RX2 78 yX2_add, Cond.instanceMethod yX2_add, Cond.selects RX2 yX2_add yX2_add, Cond.code yX2_add cX2_add 7 none, Cond.methodLink RX2 61 yX2_addGroup, Cond.instanceMethod yX2_addGroup, Cond.selects RX2 yX2_addGroup yX2_addGroup, Cond.code yX2_addGroup cX2_addGroup 8 none, Cond.fieldLink RX2 72 "SightLegend$Ranges" "total" "[I", Cond.fieldLink RX2 75 "SightLegend$MapState" "way" "[I", Cond.methodLink RX1 96 yX2_layOut, Cond.instanceMethod yX2_layOut]
def wsL_law0_r20 : List Cond := [Cond.selects RX2 yX2_layOut yX2_layOut, Cond.code yX2_layOut cX2_layOut 7 none, Cond.fieldLink RX2 85 "SightLegend$Lines" "tallest" "I", Cond.methodLink RX2 88 Lib.Math.max.name, Cond.fieldLink RX2 94 "SightLegend$Lines" "usedColumns" "I", Cond.methodLink RX1 100 yX0_place, Cond.instanceMethod yX0_place, Cond.selects RX0 yX0_place yX0_place, Cond.code yX0_place cX0_place 8 none, Cond.fieldLink RX0 9 "SightLegend$Lines" "size" "I", Cond.fieldLink RX0 20 "SightLegend$MapState" "settings" "[I", Cond.fieldLink RX0 26 "SightLegend$Lines" "usedColumns" "I", Cond.fieldLink RX0 29 "SightLegend$MapState" "window" "[I", Cond.methodLink RX0 32 Lib.Math.min.name, Cond.static Lib.Math.min.name, Cond.code Lib.Math.min.name Lib.Math.min.code 2 (some .int), Cond.fieldLink RX0 41 "SightLegend$Lines" "tallest" "I", Cond.fieldLink RX0 55 "SightLegend$Box" "covered" "I", Cond.methodLink RX0 15 yX0_vanish, Cond.instanceMethod yX0_vanish, Cond.selects RX0 yX0_vanish yX0_vanish, Cond.code yX0_vanish cX0_vanish 1 none, Cond.methodLink RX0 47 yX0_moveTo, Cond.instanceMethod yX0_moveTo]
def wsL_law0_r21 : List Cond := [Cond.selects RX0 yX0_moveTo yX0_moveTo, Cond.code yX0_moveTo cX0_moveTo 5 none, Cond.methodLink RX0 51 yX0_countCovered, Cond.instanceMethod yX0_countCovered, Cond.selects RX0 yX0_countCovered yX0_countCovered, Cond.code yX0_countCovered cX0_countCovered 5 (some .int), Cond.fieldLink RX0 67 "SightLegend$MapState" "signCount" "I", Cond.methodLink RX0 70 yX0_covers, Cond.methodLink RX1 113 yX2_isSameAs, Cond.instanceMethod yX2_isSameAs, Cond.selects RX2 yX2_isSameAs yX2_isSameAs, Cond.code yX2_isSameAs cX2_isSameAs 3 (some .boolean), Cond.methodLink RX6 135 yX6_numberOf, Cond.instanceMethod yX6_numberOf, Cond.selects RX6 yX6_numberOf yX6_numberOf, Cond.code yX6_numberOf cX6_numberOf 2 (some .int), Cond.fieldLink RX6 174 "SightLegend$Legend" "shownCount" "I", Cond.fieldLink RX6 177 "SightLegend$Legend" "explainedCount" "I", Cond.methodLink RL 116 yX7_value, Cond.instanceMethod yX7_value, Cond.selects RX7 yX7_value yX7_value, Cond.code yX7_value cX7_value 2 (some .int), Cond.methodLink RX7 194 yX7_makes, Cond.instanceMethod yX7_makes]
def wsL_law0_r22 : List Cond := [Cond.selects RX7 yX7_makes yX7_makes, Cond.code yX7_makes cX7_makes 1 none, Cond.fieldLink RX7 116 "SightLegendModel" "corner" "I", Cond.fieldLink RX7 83 "SightLegendModel" "lines" "I", Cond.fieldLink RX7 150 "SightLegendModel" "rounds" "I", Cond.fieldLink RX7 153 "SightLegendModel" "isSame" "Z", Cond.fieldLink RX7 160 "SightLegendModel" "firstLines" "I", Cond.methodLink RX7 157 yX7_round, Cond.instanceMethod yX7_round, Cond.selects RX7 yX7_round yX7_round, Cond.code yX7_round cX7_round 2 none, Cond.fieldLink RX7 141 "SightLegendModel" "oldLines" "I", Cond.methodLink RX7 131 yX7_isCovered, Cond.instanceMethod yX7_isCovered, Cond.selects RX7 yX7_isCovered yX7_isCovered, Cond.code yX7_isCovered cX7_isCovered 2 (some .boolean), Cond.fieldLink RX7 119 "SightLegendModel" "boxLeft" "I", Cond.fieldLink RX7 122 "SightLegendModel" "boxWide" "I", Cond.fieldLink RX7 125 "SightLegendModel" "boxTop" "I", Cond.fieldLink RX7 128 "SightLegendModel" "boxHigh" "I", Cond.methodLink RX7 144 yX7_listsLines, Cond.instanceMethod yX7_listsLines, Cond.selects RX7 yX7_listsLines yX7_listsLines, Cond.code yX7_listsLines cX7_listsLines 2 none]
def wsL_law0_r23 : List Cond := [Cond.methodLink RX7 110 yX7_isInSight, Cond.instanceMethod yX7_isInSight, Cond.selects RX7 yX7_isInSight yX7_isInSight, Cond.code yX7_isInSight cX7_isInSight 4 (some .boolean), Cond.methodLink RX7 103 yX7_lowest, Cond.instanceMethod yX7_lowest, Cond.selects RX7 yX7_lowest yX7_lowest, Cond.code yX7_lowest cX7_lowest 5 (some .int), Cond.methodLink RX7 93 yX7_groupOf, Cond.instanceMethod yX7_groupOf, Cond.selects RX7 yX7_groupOf yX7_groupOf, Cond.code yX7_groupOf cX7_groupOf 2 (some .int), Cond.methodLink RX7 106 yX7_addsKind, Cond.instanceMethod yX7_addsKind, Cond.selects RX7 yX7_addsKind yX7_addsKind, Cond.code yX7_addsKind cX7_addsKind 5 none, Cond.methodLink RX7 89 yX7_signsOf, Cond.instanceMethod yX7_signsOf, Cond.selects RX7 yX7_signsOf yX7_signsOf, Cond.code yX7_signsOf cX7_signsOf 6 (some .int), Cond.methodLink RX7 86 yX7_classOf, Cond.instanceMethod yX7_classOf, Cond.selects RX7 yX7_classOf yX7_classOf, Cond.code yX7_classOf cX7_classOf 5 (some .int)]
def wsL_law0_r24 : List Cond := [Cond.methodLink RX7 96 yX7_adds, Cond.instanceMethod yX7_adds, Cond.selects RX7 yX7_adds yX7_adds, Cond.code yX7_adds cX7_adds 6 none, Cond.methodLink RX7 113 yX7_addsGroup, Cond.instanceMethod yX7_addsGroup, Cond.selects RX7 yX7_addsGroup yX7_addsGroup, Cond.code yX7_addsGroup cX7_addsGroup 6 none, Cond.methodLink RX7 147 yX7_laysBox, Cond.instanceMethod yX7_laysBox, Cond.selects RX7 yX7_laysBox yX7_laysBox, Cond.code yX7_laysBox cX7_laysBox 11 none, Cond.methodLink RX7 134 yX7_stands, Cond.instanceMethod yX7_stands, Cond.selects RX7 yX7_stands yX7_stands, Cond.code yX7_stands cX7_stands 2 none, Cond.methodLink RX7 137 yX7_coveredMany, Cond.instanceMethod yX7_coveredMany, Cond.selects RX7 yX7_coveredMany yX7_coveredMany, Cond.code yX7_coveredMany cX7_coveredMany 3 (some .int), Cond.methodLink RX7 163 yX7_areSame, Cond.instanceMethod yX7_areSame, Cond.selects RX7 yX7_areSame yX7_areSame, Cond.code yX7_areSame cX7_areSame 3 (some .boolean)]
def wsL_law0_r25 : List Cond := [Cond.methodLink RX7 197 yX7_valueOf, Cond.instanceMethod yX7_valueOf, Cond.selects RX7 yX7_valueOf yX7_valueOf, Cond.code yX7_valueOf cX7_valueOf 2 (some .int), Cond.methodLink RX7 191 yX7_explainedMany, Cond.instanceMethod yX7_explainedMany, Cond.selects RX7 yX7_explainedMany yX7_explainedMany, Cond.code yX7_explainedMany cX7_explainedMany 3 (some .int), Cond.methodLink RL 117 yL_sign, Cond.static yL_sign, Cond.codeWith yL_sign cL_sign 5 (some .int) [(0, 10, 13, 13), (0, 10, 17, 15)], Cond.methodLink RL 46 yX6_sign, Cond.instanceMethod yX6_sign, Cond.selects RX6 yX6_sign yX6_sign, Cond.code yX6_sign cX6_sign 3 (some .int), Cond.methodLink RX6 139 yX6_signFact, Cond.instanceMethod yX6_signFact, Cond.selects RX6 yX6_signFact yX6_signFact, Cond.code yX6_signFact cX6_signFact 3 (some .int), Cond.fieldLink RX6 187 "SightLegend$MapState" "signKind" "[I", Cond.fieldLink RX6 244 "SightLegend$MapState" "signValue" "[I", Cond.fieldLink RX6 194 "SightLegend$MapState" "signLevel" "[I", Cond.fieldLink RX6 250 "SightLegend$Legend" "shown" "[Z", Cond.fieldLink RX6 254 "SightLegend$Legend" "inSight" "[Z"]
def wsL_law0_r26 : List Cond := [Cond.methodLink RX6 247 yX3_classOf, Cond.methodLink RX6 257 yX1_lineOf, Cond.instanceMethod yX1_lineOf, Cond.selects RX1 yX1_lineOf yX1_lineOf, Cond.code yX1_lineOf cX1_lineOf 6 (some .int), Cond.fieldLink RX1 121 "SightLegend$MapState" "signKind" "[I", Cond.fieldLink RX1 128 "SightLegend$Lines" "type" "[I", Cond.fieldLink RX1 131 "SightLegend$Lines" "group" "[I", Cond.fieldLink RX1 134 "SightLegend$MapState" "group" "[I", Cond.fieldLink RX1 135 "SightLegend$Lines" "kind" "[I", Cond.fieldLink RX1 138 "SightLegend$Lines" "first" "[I", Cond.fieldLink RX1 141 "SightLegend$Lines" "last" "[I", Cond.methodLink RX1 124 yX3_classOf, Cond.methodLink RL 119 yX7_sign, Cond.instanceMethod yX7_sign, Cond.selects RX7 yX7_sign yX7_sign, Cond.code yX7_sign cX7_sign 3 (some .int), Cond.methodLink RX7 207 yX7_signOf, Cond.instanceMethod yX7_signOf, Cond.selects RX7 yX7_signOf yX7_signOf, Cond.code yX7_signOf cX7_signOf 3 (some .int), Cond.methodLink RX7 204 yX7_lineFor, Cond.instanceMethod yX7_lineFor, Cond.selects RX7 yX7_lineFor yX7_lineFor]
def wsL_law0_r27 : List Cond := [Cond.code yX7_lineFor cX7_lineFor 3 (some .int), Cond.methodLink RX7 200 yX7_standsFor, Cond.instanceMethod yX7_standsFor, Cond.selects RX7 yX7_standsFor yX7_standsFor, Cond.code yX7_standsFor cX7_standsFor 3 (some .boolean), Cond.methodLink RL 120 yL_kind, Cond.static yL_kind, Cond.codeWith yL_kind cL_kind 5 (some .int) [(0, 10, 13, 13), (0, 10, 17, 15)], Cond.methodLink RL 49 yX6_kind, Cond.instanceMethod yX6_kind, Cond.selects RX6 yX6_kind yX6_kind, Cond.code yX6_kind cX6_kind 3 (some .int), Cond.methodLink RX6 143 yX6_kindFact, Cond.instanceMethod yX6_kindFact, Cond.selects RX6 yX6_kindFact yX6_kindFact, Cond.code yX6_kindFact cX6_kindFact 3 (some .int), Cond.fieldLink RX6 146 "SightLegend$Legend" "now" "LSightLegend$Lines;", Cond.fieldLink RX6 264 "SightLegend$Legend" "ranges" "LSightLegend$Ranges;", Cond.fieldLink RX6 268 "SightLegend$Ranges" "total" "[I", Cond.methodLink RX6 261 yX2_countOfKind, Cond.instanceMethod yX2_countOfKind, Cond.selects RX2 yX2_countOfKind yX2_countOfKind, Cond.code yX2_countOfKind cX2_countOfKind 4 (some .int), Cond.methodLink RX6 273 yX3_limitAt]
def wsL_law0_r28 : List Cond := [Cond.instanceMethod yX3_limitAt, Cond.selects RX3 yX3_limitAt yX3_limitAt, Cond.code yX3_limitAt cX3_limitAt 3 (some .int), Cond.methodLink RL 122 yX7_kind, Cond.instanceMethod yX7_kind, Cond.selects RX7 yX7_kind yX7_kind, Cond.code yX7_kind cX7_kind 3 (some .int), Cond.methodLink RX7 213 yX7_kindOf, Cond.instanceMethod yX7_kindOf, Cond.selects RX7 yX7_kindOf yX7_kindOf, Cond.code yX7_kindOf cX7_kindOf 4 (some .int), Cond.methodLink RX7 210 yX7_linesOf, Cond.instanceMethod yX7_linesOf, Cond.selects RX7 yX7_linesOf yX7_linesOf, Cond.code yX7_linesOf cX7_linesOf 4 (some .int), Cond.methodLink RL 123 yX6_lines, Cond.instanceMethod yX6_lines, Cond.selects RX6 yX6_lines yX6_lines, Cond.code yX6_lines cX6_lines 1 (some .int), Cond.fieldLink RX6 150 "SightLegend$Lines" "size" "I", Cond.methodLink RL 126 yX7_lines, Cond.instanceMethod yX7_lines, Cond.selects RX7 yX7_lines yX7_lines, Cond.code yX7_lines cX7_lines 1 (some .int)]
def wsL_law0_r29 : List Cond := [Cond.methodLink RL 127 yL_line, Cond.static yL_line, Cond.codeWith yL_line cL_line 5 (some .int) [(0, 10, 13, 13), (0, 10, 17, 15)], Cond.methodLink RL 52 yX6_line, Cond.instanceMethod yX6_line, Cond.selects RX6 yX6_line yX6_line, Cond.code yX6_line cX6_line 3 (some .int), Cond.methodLink RX6 157 yX2_fact, Cond.instanceMethod yX2_fact, Cond.selects RX2 yX2_fact yX2_fact, Cond.code yX2_fact cX2_fact 3 (some .int), Cond.methodLink RL 129 yX7_line, Cond.instanceMethod yX7_line, Cond.selects RX7 yX7_line yX7_line, Cond.code yX7_line cX7_line 3 (some .int), Cond.methodLink RX7 216 yX7_lineOf, Cond.instanceMethod yX7_lineOf, Cond.selects RX7 yX7_lineOf yX7_lineOf, Cond.code yX7_lineOf cX7_lineOf 5 (some .int), Cond.methodLink RL 130 yL_box, Cond.static yL_box, Cond.codeWith yL_box cL_box 4 (some .int) [(0, 9, 12, 15)], Cond.methodLink RL 55 yX6_box, Cond.instanceMethod yX6_box]
def wsL_law0_r30 : List Cond := [Cond.selects RX6 yX6_box yX6_box, Cond.code yX6_box cX6_box 2 (some .int), Cond.fieldLink RX6 160 "SightLegend$Legend" "box" "LSightLegend$Box;", Cond.methodLink RX6 164 yX0_fact, Cond.instanceMethod yX0_fact, Cond.selects RX0 yX0_fact yX0_fact, Cond.code yX0_fact cX0_fact 2 (some .int), Cond.methodLink RL 132 yX7_box, Cond.instanceMethod yX7_box, Cond.selects RX7 yX7_box yX7_box, Cond.code yX7_box cX7_box 2 (some .int), Cond.methodLink RX7 219 yX7_boxOf, Cond.instanceMethod yX7_boxOf, Cond.selects RX7 yX7_boxOf yX7_boxOf, Cond.code yX7_boxOf cX7_boxOf 2 (some .int), Cond.methodLink RL 133 yL_rounds, Cond.static yL_rounds, Cond.codeWith yL_rounds cL_rounds 4 (some .int) [(0, 9, 12, 15)], Cond.methodLink RL 58 yX6_rounds, Cond.instanceMethod yX6_rounds, Cond.selects RX6 yX6_rounds yX6_rounds, Cond.code yX6_rounds cX6_rounds 2 (some .int), Cond.methodLink RX6 168 yX6_roundFact, Cond.instanceMethod yX6_roundFact]
def wsL_law0_r31 : List Cond := [Cond.selects RX6 yX6_roundFact yX6_roundFact, Cond.code yX6_roundFact cX6_roundFact 2 (some .int), Cond.fieldLink RX6 276 "SightLegend$Legend" "roundCount" "I", Cond.fieldLink RX6 279 "SightLegend$Legend" "stays" "Z", Cond.methodLink RX6 282 yX1_countCoveredInSight, Cond.instanceMethod yX1_countCoveredInSight, Cond.selects RX1 yX1_countCoveredInSight yX1_countCoveredInSight, Cond.code yX1_countCoveredInSight cX1_countCoveredInSight 2 (some .int), Cond.methodLink RX1 117 yX0_countCovered, Cond.methodLink RL 135 yX7_rounds, Cond.instanceMethod yX7_rounds, Cond.selects RX7 yX7_rounds yX7_rounds, Cond.code yX7_rounds cX7_rounds 2 (some .int), Cond.methodLink RX7 222 yX7_roundsOf, Cond.instanceMethod yX7_roundsOf, Cond.selects RX7 yX7_roundsOf yX7_roundsOf, Cond.code yX7_roundsOf cX7_roundsOf 4 (some .int), Cond.methodLink RL 136 yX6_firstLines, Cond.instanceMethod yX6_firstLines, Cond.selects RX6 yX6_firstLines yX6_firstLines, Cond.code yX6_firstLines cX6_firstLines 1 (some .int), Cond.fieldLink RX6 171 "SightLegend$Legend" "firstLineCount" "I", Cond.methodLink RL 139 yX7_firstLines, Cond.instanceMethod yX7_firstLines]
def wsL_law0_r32 : List Cond := [Cond.selects RX7 yX7_firstLines yX7_firstLines, Cond.code yX7_firstLines cX7_firstLines 1 (some .int), Cond.methodLink RL 140 yX6_explained, Cond.instanceMethod yX6_explained, Cond.selects RX6 yX6_explained yX6_explained, Cond.code yX6_explained cX6_explained 2 (some .double), Cond.methodLink RL 144 yX7_explained, Cond.instanceMethod yX7_explained, Cond.selects RX7 yX7_explained yX7_explained, Cond.code yX7_explained cX7_explained 2 (some .double), Cond.methodLink RL 145 yL_linesAt, Cond.static yL_linesAt, Cond.codeWith yL_linesAt cL_linesAt 5 (some .int) [(0, 10, 13, 15)], Cond.methodLink RL 61 yX6_linesAt, Cond.instanceMethod yX6_linesAt, Cond.selects RX6 yX6_linesAt yX6_linesAt, Cond.code yX6_linesAt cX6_linesAt 3 (some .int), Cond.methodLink RL 147 yX7_linesAt, Cond.instanceMethod yX7_linesAt, Cond.selects RX7 yX7_linesAt yX7_linesAt, Cond.code yX7_linesAt cX7_linesAt 3 (some .int), Cond.methodLink RL 148 yX6_bestColumns, Cond.instanceMethod yX6_bestColumns, Cond.selects RX6 yX6_bestColumns yX6_bestColumns]
def wsL_law0_r33 : List Cond := [Cond.code yX6_bestColumns cX6_bestColumns 4 (some .int), Cond.methodLink RL 151 yX7_bestColumns, Cond.instanceMethod yX7_bestColumns, Cond.selects RX7 yX7_bestColumns yX7_bestColumns, Cond.code yX7_bestColumns cX7_bestColumns 6 (some .int), Cond.methodLink RL 152 yL_zoomFor, Cond.static yL_zoomFor, Cond.codeWith yL_zoomFor cL_zoomFor 4 (some .int) [(0, 9, 12, 13)], Cond.methodLink RL 64 yX6_zoomFor, Cond.instanceMethod yX6_zoomFor, Cond.selects RX6 yX6_zoomFor yX6_zoomFor, Cond.code yX6_zoomFor cX6_zoomFor 4 (some .int), Cond.methodLink RX6 197 Lib.Math.max.name, Cond.methodLink RX6 190 yX3_isInWindow, Cond.methodLink RL 154 yX7_zoomFor, Cond.instanceMethod yX7_zoomFor, Cond.selects RX7 yX7_zoomFor yX7_zoomFor, Cond.code yX7_zoomFor cX7_zoomFor 4 (some .int), Cond.methodLink RL 155 yL_linesSaved, Cond.static yL_linesSaved, Cond.codeWith yL_linesSaved cL_linesSaved 4 (some .int) [(0, 9, 12, 13)], Cond.methodLink RL 67 yX6_linesSaved, Cond.instanceMethod yX6_linesSaved, Cond.selects RX6 yX6_linesSaved yX6_linesSaved]
def wsL_law0_r34 : List Cond := [Cond.code yX6_linesSaved cX6_linesSaved 2 (some .int), Cond.methodLink RL 157 yX7_linesSaved, Cond.instanceMethod yX7_linesSaved, Cond.selects RX7 yX7_linesSaved yX7_linesSaved, Cond.code yX7_linesSaved cX7_linesSaved 3 (some .int), Cond.methodLink RL 158 yL_append, Cond.static yL_append, Cond.codeWith yL_append cL_append 4 (some .int) [(0, 9, 12, 15), (0, 9, 15, 17)], Cond.methodLink RL 70 yX6_append, Cond.instanceMethod yX6_append, Cond.selects RX6 yX6_append yX6_append, Cond.code yX6_append cX6_append 2 (some .int), Cond.fieldLink RX6 202 "SightLegend$SignText" "length" "I", Cond.methodLink RX6 207 yX5_put, Cond.instanceMethod yX5_put, Cond.selects RX5 yX5_put yX5_put, Cond.code yX5_put cX5_put 2 none, Cond.fieldLink RX5 22 "SightLegend$SignText" "length" "I", Cond.methodLink RL 160 yX7_append, Cond.instanceMethod yX7_append, Cond.selects RX7 yX7_append yX7_append, Cond.code yX7_append cX7_append 2 (some .int), Cond.fieldLink RX7 225 "SightLegendModel" "typed" "I", Cond.methodLink RL 161 yX6_clearText]
def wsL_law0_r35 : List Cond := [Cond.instanceMethod yX6_clearText, Cond.selects RX6 yX6_clearText yX6_clearText, Cond.code yX6_clearText cX6_clearText 2 (some .int), Cond.methodLink RL 164 yX7_clearText, Cond.instanceMethod yX7_clearText, Cond.selects RX7 yX7_clearText yX7_clearText, Cond.code yX7_clearText cX7_clearText 2 (some .int), Cond.methodLink RL 165 yX6_parse, Cond.instanceMethod yX6_parse, Cond.selects RX6 yX6_parse yX6_parse, Cond.code yX6_parse cX6_parse 1 (some .int), Cond.fieldLink RX6 213 "SightLegend$SignText" "error" "I", Cond.fieldLink RX6 216 "SightLegend$SignText" "signs" "LSightLegend$MapState;", Cond.methodLink RX6 210 yX5_read, Cond.instanceMethod yX5_read, Cond.selects RX5 yX5_read yX5_read, Cond.code yX5_read cX5_read 2 none, Cond.fieldLink RX5 26 "SightLegend$SignText" "at" "I", Cond.fieldLink RX5 29 "SightLegend$SignText" "error" "I", Cond.fieldLink RX5 32 "SightLegend$MapState" "signCount" "I", Cond.methodLink RX5 35 yX5_readSign, Cond.instanceMethod yX5_readSign, Cond.selects RX5 yX5_readSign yX5_readSign, Cond.code yX5_readSign cX5_readSign 6 none]
def wsL_law0_r36 : List Cond := [Cond.methodLink RX5 38 yX5_readNumber, Cond.instanceMethod yX5_readNumber, Cond.selects RX5 yX5_readNumber yX5_readNumber, Cond.code yX5_readNumber cX5_readNumber 6 (some .int), Cond.methodLink RX5 54 yX5_isDigit, Cond.instanceMethod yX5_isDigit, Cond.selects RX5 yX5_isDigit yX5_isDigit, Cond.code yX5_isDigit cX5_isDigit 2 (some .boolean), Cond.methodLink RX5 42 yX5_readByte, Cond.instanceMethod yX5_readByte, Cond.selects RX5 yX5_readByte yX5_readByte, Cond.code yX5_readByte cX5_readByte 2 none, Cond.methodLink RX5 46 yX5_readLevel, Cond.instanceMethod yX5_readLevel, Cond.selects RX5 yX5_readLevel yX5_readLevel, Cond.code yX5_readLevel cX5_readLevel 2 (some .int), Cond.methodLink RX5 50 yX3_putSign, Cond.methodLink RX6 219 yX3_takeSigns, Cond.methodLink RL 168 yX7_parse, Cond.instanceMethod yX7_parse, Cond.selects RX7 yX7_parse yX7_parse, Cond.code yX7_parse cX7_parse 1 (some .int), Cond.fieldLink RX7 228 "SightLegendModel" "spot" "I", Cond.methodLink RX7 240 yX7_isSignText]
def wsL_law0_r37 : List Cond := [Cond.instanceMethod yX7_isSignText, Cond.selects RX7 yX7_isSignText yX7_isSignText, Cond.code yX7_isSignText cX7_isSignText 2 (some .boolean), Cond.methodLink RX7 237 yX7_isNumber, Cond.instanceMethod yX7_isNumber, Cond.selects RX7 yX7_isNumber yX7_isNumber, Cond.code yX7_isNumber cX7_isNumber 5 (some .boolean), Cond.methodLink RX7 231 yX7_isDigit, Cond.instanceMethod yX7_isDigit, Cond.selects RX7 yX7_isDigit yX7_isDigit, Cond.code yX7_isDigit cX7_isDigit 1 (some .boolean), Cond.methodLink RX7 234 yX7_isByte, Cond.instanceMethod yX7_isByte, Cond.selects RX7 yX7_isByte yX7_isByte, Cond.code yX7_isByte cX7_isByte 2 (some .boolean), Cond.methodLink RL 169 yL_undo, Cond.static yL_undo, Cond.codeWith yL_undo cL_undo 3 (some .int) [(0, 8, 11, 17)], Cond.methodLink RL 73 yX6_undo, Cond.instanceMethod yX6_undo, Cond.selects RX6 yX6_undo yX6_undo, Cond.code yX6_undo cX6_undo 2 (some .int), Cond.methodLink RL 172 yX7_undo, Cond.instanceMethod yX7_undo]
def wsL_law0_r38 : List Cond := [Cond.selects RX7 yX7_undo yX7_undo, Cond.code yX7_undo cX7_undo 2 (some .int), Cond.methodLink RL 173 yX6_digest, Cond.instanceMethod yX6_digest, Cond.selects RX6 yX6_digest yX6_digest, Cond.code yX6_digest cX6_digest 4 (some .long), Cond.constantLong RX6 230 (105121), Cond.constantLong RX6 232 (31), Cond.methodLink RX6 234 yX6_hashOfKinds, Cond.instanceMethod yX6_hashOfKinds, Cond.selects RX6 yX6_hashOfKinds yX6_hashOfKinds, Cond.code yX6_hashOfKinds cX6_hashOfKinds 7 (some .long), Cond.methodLink RX6 238 yX6_hashOfSigns, Cond.instanceMethod yX6_hashOfSigns, Cond.selects RX6 yX6_hashOfSigns yX6_hashOfSigns, Cond.code yX6_hashOfSigns cX6_hashOfSigns 7 (some .long), Cond.methodLink RX6 241 yX6_hashOfLines, Cond.instanceMethod yX6_hashOfLines, Cond.selects RX6 yX6_hashOfLines yX6_hashOfLines, Cond.code yX6_hashOfLines cX6_hashOfLines 7 (some .long), Cond.methodLink RL 177 yX7_digest, Cond.instanceMethod yX7_digest, Cond.selects RX7 yX7_digest yX7_digest, Cond.code yX7_digest cX7_digest 2 (some .long)]
def wsL_law0_r39 : List Cond := [Cond.constantLong RX7 252 (3391), Cond.fieldLink RX7 245 "SightLegendModel" "h" "J", Cond.methodLink RX7 249 yX7_mix, Cond.instanceMethod yX7_mix, Cond.selects RX7 yX7_mix yX7_mix, Cond.code yX7_mix cX7_mix 2 none, Cond.constantLong RX7 243 (31), Cond.methodLink RX7 254 yX7_mixLegend, Cond.instanceMethod yX7_mixLegend, Cond.selects RX7 yX7_mixLegend yX7_mixLegend, Cond.code yX7_mixLegend cX7_mixLegend 2 none]
def wsL_law0 : List Cond := (wsL_law0_r1 ++ (wsL_law0_r2 ++ (wsL_law0_r3 ++ (wsL_law0_r4 ++ (wsL_law0_r5 ++ (wsL_law0_r6 ++ (wsL_law0_r7 ++ (wsL_law0_r8 ++ (wsL_law0_r9 ++ (wsL_law0_r10 ++ (wsL_law0_r11 ++ (wsL_law0_r12 ++ (wsL_law0_r13 ++ (wsL_law0_r14 ++ (wsL_law0_r15 ++ (wsL_law0_r16 ++ (wsL_law0_r17 ++ (wsL_law0_r18 ++ (wsL_law0_r19 ++ (wsL_law0_r20 ++ (wsL_law0_r21 ++ (wsL_law0_r22 ++ (wsL_law0_r23 ++ (wsL_law0_r24 ++ (wsL_law0_r25 ++ (wsL_law0_r26 ++ (wsL_law0_r27 ++ (wsL_law0_r28 ++ (wsL_law0_r29 ++ (wsL_law0_r30 ++ (wsL_law0_r31 ++ (wsL_law0_r32 ++ (wsL_law0_r33 ++ (wsL_law0_r34 ++ (wsL_law0_r35 ++ (wsL_law0_r36 ++ (wsL_law0_r37 ++ (wsL_law0_r38 ++ wsL_law0_r39)))))))))))))))))))))))))))))))))))))) ++ wsX60 ++ wsX70 ++ wsX30 ++ wsX10 ++ wsX50 ++ wsX40 ++ wsX20 ++ wsX00 ++ ([] : List Cond)
def wsL_law : List Cond := wsL_law0 ++ (vx_atS RX6 56 "java/lang/IllegalStateException" ["java/lang/RuntimeException", "java/lang/Exception"]).filter goodWord ++ (vx_atS RX6 110 "java/lang/IndexOutOfBoundsException" ["java/lang/RuntimeException", "java/lang/Exception"]).filter goodWord ++ (vx_atS RX6 96 "java/lang/IllegalArgumentException" ["java/lang/RuntimeException", "java/lang/Exception"]).filter goodWord
theorem inlX0 : ∀ w ∈ wsX00, w ∈ wsL_law := fun _ h => List.mem_append_left _ (List.mem_append_left _ (List.mem_append_left _ (List.mem_append_left _ (List.mem_append_right _ h))))
theorem inlX1 : ∀ w ∈ wsX10, w ∈ wsL_law := fun _ h => List.mem_append_left _ (List.mem_append_left _ (List.mem_append_left _ (List.mem_append_left _ (List.mem_append_left _ (List.mem_append_left _ (List.mem_append_left _ (List.mem_append_left _ (List.mem_append_right _ h))))))))
theorem inlX2 : ∀ w ∈ wsX20, w ∈ wsL_law := fun _ h => List.mem_append_left _ (List.mem_append_left _ (List.mem_append_left _ (List.mem_append_left _ (List.mem_append_left _ (List.mem_append_right _ h)))))
theorem inlX3 : ∀ w ∈ wsX30, w ∈ wsL_law := fun _ h => List.mem_append_left _ (List.mem_append_left _ (List.mem_append_left _ (List.mem_append_left _ (List.mem_append_left _ (List.mem_append_left _ (List.mem_append_left _ (List.mem_append_left _ (List.mem_append_left _ (List.mem_append_right _ h)))))))))
theorem inlX4 : ∀ w ∈ wsX40, w ∈ wsL_law := fun _ h => List.mem_append_left _ (List.mem_append_left _ (List.mem_append_left _ (List.mem_append_left _ (List.mem_append_left _ (List.mem_append_left _ (List.mem_append_right _ h))))))
theorem inlX5 : ∀ w ∈ wsX50, w ∈ wsL_law := fun _ h => List.mem_append_left _ (List.mem_append_left _ (List.mem_append_left _ (List.mem_append_left _ (List.mem_append_left _ (List.mem_append_left _ (List.mem_append_left _ (List.mem_append_right _ h)))))))
theorem inlX6 : ∀ w ∈ wsX60, w ∈ wsL_law := fun _ h => List.mem_append_left _ (List.mem_append_left _ (List.mem_append_left _ (List.mem_append_left _ (List.mem_append_left _ (List.mem_append_left _ (List.mem_append_left _ (List.mem_append_left _ (List.mem_append_left _ (List.mem_append_left _ (List.mem_append_left _ (List.mem_append_right _ h)))))))))))
theorem inlX7 : ∀ w ∈ wsX70, w ∈ wsL_law := fun _ h => List.mem_append_left _ (List.mem_append_left _ (List.mem_append_left _ (List.mem_append_left _ (List.mem_append_left _ (List.mem_append_left _ (List.mem_append_left _ (List.mem_append_left _ (List.mem_append_left _ (List.mem_append_left _ (List.mem_append_right _ h))))))))))
abbrev vwCl : List vw_C := [(RX0, TX0, 6), (RX1, TX1, 12), (RX2, TX2, 14), (RX3, TX3, 13), (RX4, TX4, 6), (RX5, TX5, 5), (RX6, TX6, 8), (RX7, TX7, 29)]
/-! ===== the words of all methods in one list: wsL_law, in pieces ===== -/
theorem GL_1 : ∀ w ∈ wsL_law0_r1, w ∈ wsL_law := fun w h => (List.mem_append_left _ (List.mem_append_left _ (List.mem_append_left _ (List.mem_append_left _ (List.mem_append_left _ (List.mem_append_left _ (List.mem_append_left _ (List.mem_append_left _ (List.mem_append_left _ (List.mem_append_left _ (List.mem_append_left _ (List.mem_append_left _ (List.mem_append_left _ h)))))))))))))
theorem GG_1 : wsL_law0_r1.all goodWord = true := by decide +kernel
theorem GL_2 : ∀ w ∈ wsL_law0_r2, w ∈ wsL_law := fun w h => (List.mem_append_left _ (List.mem_append_left _ (List.mem_append_left _ (List.mem_append_left _ (List.mem_append_left _ (List.mem_append_left _ (List.mem_append_left _ (List.mem_append_left _ (List.mem_append_left _ (List.mem_append_left _ (List.mem_append_left _ (List.mem_append_left _ (List.mem_append_right _ (List.mem_append_left _ h))))))))))))))
theorem GG_2 : wsL_law0_r2.all goodWord = true := by decide +kernel
theorem GL_3 : ∀ w ∈ wsL_law0_r3, w ∈ wsL_law := fun w h => (List.mem_append_left _ (List.mem_append_left _ (List.mem_append_left _ (List.mem_append_left _ (List.mem_append_left _ (List.mem_append_left _ (List.mem_append_left _ (List.mem_append_left _ (List.mem_append_left _ (List.mem_append_left _ (List.mem_append_left _ (List.mem_append_left _ (List.mem_append_right _ (List.mem_append_right _ (List.mem_append_left _ h)))))))))))))))
theorem GG_3 : wsL_law0_r3.all goodWord = true := by decide +kernel
theorem GL_4 : ∀ w ∈ wsL_law0_r4, w ∈ wsL_law := fun w h => (List.mem_append_left _ (List.mem_append_left _ (List.mem_append_left _ (List.mem_append_left _ (List.mem_append_left _ (List.mem_append_left _ (List.mem_append_left _ (List.mem_append_left _ (List.mem_append_left _ (List.mem_append_left _ (List.mem_append_left _ (List.mem_append_left _ (List.mem_append_right _ (List.mem_append_right _ (List.mem_append_right _ (List.mem_append_left _ h))))))))))))))))
theorem GG_4 : wsL_law0_r4.all goodWord = true := by decide +kernel
theorem GL_5 : ∀ w ∈ wsL_law0_r5, w ∈ wsL_law := fun w h => (List.mem_append_left _ (List.mem_append_left _ (List.mem_append_left _ (List.mem_append_left _ (List.mem_append_left _ (List.mem_append_left _ (List.mem_append_left _ (List.mem_append_left _ (List.mem_append_left _ (List.mem_append_left _ (List.mem_append_left _ (List.mem_append_left _ (List.mem_append_right _ (List.mem_append_right _ (List.mem_append_right _ (List.mem_append_right _ (List.mem_append_left _ h)))))))))))))))))
theorem GG_5 : wsL_law0_r5.all goodWord = true := by decide +kernel
theorem GL_6 : ∀ w ∈ wsL_law0_r6, w ∈ wsL_law := fun w h => (List.mem_append_left _ (List.mem_append_left _ (List.mem_append_left _ (List.mem_append_left _ (List.mem_append_left _ (List.mem_append_left _ (List.mem_append_left _ (List.mem_append_left _ (List.mem_append_left _ (List.mem_append_left _ (List.mem_append_left _ (List.mem_append_left _ (List.mem_append_right _ (List.mem_append_right _ (List.mem_append_right _ (List.mem_append_right _ (List.mem_append_right _ (List.mem_append_left _ h))))))))))))))))))
theorem GG_6 : wsL_law0_r6.all goodWord = true := by decide +kernel
theorem GL_7 : ∀ w ∈ wsL_law0_r7, w ∈ wsL_law := fun w h => (List.mem_append_left _ (List.mem_append_left _ (List.mem_append_left _ (List.mem_append_left _ (List.mem_append_left _ (List.mem_append_left _ (List.mem_append_left _ (List.mem_append_left _ (List.mem_append_left _ (List.mem_append_left _ (List.mem_append_left _ (List.mem_append_left _ (List.mem_append_right _ (List.mem_append_right _ (List.mem_append_right _ (List.mem_append_right _ (List.mem_append_right _ (List.mem_append_right _ (List.mem_append_left _ h)))))))))))))))))))
theorem GG_7 : wsL_law0_r7.all goodWord = true := by decide +kernel
theorem GL_8 : ∀ w ∈ wsL_law0_r8, w ∈ wsL_law := fun w h => (List.mem_append_left _ (List.mem_append_left _ (List.mem_append_left _ (List.mem_append_left _ (List.mem_append_left _ (List.mem_append_left _ (List.mem_append_left _ (List.mem_append_left _ (List.mem_append_left _ (List.mem_append_left _ (List.mem_append_left _ (List.mem_append_left _ (List.mem_append_right _ (List.mem_append_right _ (List.mem_append_right _ (List.mem_append_right _ (List.mem_append_right _ (List.mem_append_right _ (List.mem_append_right _ (List.mem_append_left _ h))))))))))))))))))))
theorem GG_8 : wsL_law0_r8.all goodWord = true := by decide +kernel
theorem GL_9 : ∀ w ∈ wsL_law0_r9, w ∈ wsL_law := fun w h => (List.mem_append_left _ (List.mem_append_left _ (List.mem_append_left _ (List.mem_append_left _ (List.mem_append_left _ (List.mem_append_left _ (List.mem_append_left _ (List.mem_append_left _ (List.mem_append_left _ (List.mem_append_left _ (List.mem_append_left _ (List.mem_append_left _ (List.mem_append_right _ (List.mem_append_right _ (List.mem_append_right _ (List.mem_append_right _ (List.mem_append_right _ (List.mem_append_right _ (List.mem_append_right _ (List.mem_append_right _ (List.mem_append_left _ h)))))))))))))))))))))
theorem GG_9 : wsL_law0_r9.all goodWord = true := by decide +kernel
theorem GL_10 : ∀ w ∈ wsL_law0_r10, w ∈ wsL_law := fun w h => (List.mem_append_left _ (List.mem_append_left _ (List.mem_append_left _ (List.mem_append_left _ (List.mem_append_left _ (List.mem_append_left _ (List.mem_append_left _ (List.mem_append_left _ (List.mem_append_left _ (List.mem_append_left _ (List.mem_append_left _ (List.mem_append_left _ (List.mem_append_right _ (List.mem_append_right _ (List.mem_append_right _ (List.mem_append_right _ (List.mem_append_right _ (List.mem_append_right _ (List.mem_append_right _ (List.mem_append_right _ (List.mem_append_right _ (List.mem_append_left _ h))))))))))))))))))))))
theorem GG_10 : wsL_law0_r10.all goodWord = true := by decide +kernel
theorem GL_11 : ∀ w ∈ wsL_law0_r11, w ∈ wsL_law := fun w h => (List.mem_append_left _ (List.mem_append_left _ (List.mem_append_left _ (List.mem_append_left _ (List.mem_append_left _ (List.mem_append_left _ (List.mem_append_left _ (List.mem_append_left _ (List.mem_append_left _ (List.mem_append_left _ (List.mem_append_left _ (List.mem_append_left _ (List.mem_append_right _ (List.mem_append_right _ (List.mem_append_right _ (List.mem_append_right _ (List.mem_append_right _ (List.mem_append_right _ (List.mem_append_right _ (List.mem_append_right _ (List.mem_append_right _ (List.mem_append_right _ (List.mem_append_left _ h)))))))))))))))))))))))
theorem GG_11 : wsL_law0_r11.all goodWord = true := by decide +kernel
theorem GL_12 : ∀ w ∈ wsL_law0_r12, w ∈ wsL_law := fun w h => (List.mem_append_left _ (List.mem_append_left _ (List.mem_append_left _ (List.mem_append_left _ (List.mem_append_left _ (List.mem_append_left _ (List.mem_append_left _ (List.mem_append_left _ (List.mem_append_left _ (List.mem_append_left _ (List.mem_append_left _ (List.mem_append_left _ (List.mem_append_right _ (List.mem_append_right _ (List.mem_append_right _ (List.mem_append_right _ (List.mem_append_right _ (List.mem_append_right _ (List.mem_append_right _ (List.mem_append_right _ (List.mem_append_right _ (List.mem_append_right _ (List.mem_append_right _ (List.mem_append_left _ h))))))))))))))))))))))))
theorem GG_12 : wsL_law0_r12.all goodWord = true := by decide +kernel
theorem GL_13 : ∀ w ∈ wsL_law0_r13, w ∈ wsL_law := fun w h => (List.mem_append_left _ (List.mem_append_left _ (List.mem_append_left _ (List.mem_append_left _ (List.mem_append_left _ (List.mem_append_left _ (List.mem_append_left _ (List.mem_append_left _ (List.mem_append_left _ (List.mem_append_left _ (List.mem_append_left _ (List.mem_append_left _ (List.mem_append_right _ (List.mem_append_right _ (List.mem_append_right _ (List.mem_append_right _ (List.mem_append_right _ (List.mem_append_right _ (List.mem_append_right _ (List.mem_append_right _ (List.mem_append_right _ (List.mem_append_right _ (List.mem_append_right _ (List.mem_append_right _ (List.mem_append_left _ h)))))))))))))))))))))))))
theorem GG_13 : wsL_law0_r13.all goodWord = true := by decide +kernel
theorem GL_14 : ∀ w ∈ wsL_law0_r14, w ∈ wsL_law := fun w h => (List.mem_append_left _ (List.mem_append_left _ (List.mem_append_left _ (List.mem_append_left _ (List.mem_append_left _ (List.mem_append_left _ (List.mem_append_left _ (List.mem_append_left _ (List.mem_append_left _ (List.mem_append_left _ (List.mem_append_left _ (List.mem_append_left _ (List.mem_append_right _ (List.mem_append_right _ (List.mem_append_right _ (List.mem_append_right _ (List.mem_append_right _ (List.mem_append_right _ (List.mem_append_right _ (List.mem_append_right _ (List.mem_append_right _ (List.mem_append_right _ (List.mem_append_right _ (List.mem_append_right _ (List.mem_append_right _ (List.mem_append_left _ h))))))))))))))))))))))))))
theorem GG_14 : wsL_law0_r14.all goodWord = true := by decide +kernel
theorem GL_15 : ∀ w ∈ wsL_law0_r15, w ∈ wsL_law := fun w h => (List.mem_append_left _ (List.mem_append_left _ (List.mem_append_left _ (List.mem_append_left _ (List.mem_append_left _ (List.mem_append_left _ (List.mem_append_left _ (List.mem_append_left _ (List.mem_append_left _ (List.mem_append_left _ (List.mem_append_left _ (List.mem_append_left _ (List.mem_append_right _ (List.mem_append_right _ (List.mem_append_right _ (List.mem_append_right _ (List.mem_append_right _ (List.mem_append_right _ (List.mem_append_right _ (List.mem_append_right _ (List.mem_append_right _ (List.mem_append_right _ (List.mem_append_right _ (List.mem_append_right _ (List.mem_append_right _ (List.mem_append_right _ (List.mem_append_left _ h)))))))))))))))))))))))))))
theorem GG_15 : wsL_law0_r15.all goodWord = true := by decide +kernel
theorem GL_16 : ∀ w ∈ wsL_law0_r16, w ∈ wsL_law := fun w h => (List.mem_append_left _ (List.mem_append_left _ (List.mem_append_left _ (List.mem_append_left _ (List.mem_append_left _ (List.mem_append_left _ (List.mem_append_left _ (List.mem_append_left _ (List.mem_append_left _ (List.mem_append_left _ (List.mem_append_left _ (List.mem_append_left _ (List.mem_append_right _ (List.mem_append_right _ (List.mem_append_right _ (List.mem_append_right _ (List.mem_append_right _ (List.mem_append_right _ (List.mem_append_right _ (List.mem_append_right _ (List.mem_append_right _ (List.mem_append_right _ (List.mem_append_right _ (List.mem_append_right _ (List.mem_append_right _ (List.mem_append_right _ (List.mem_append_right _ (List.mem_append_left _ h))))))))))))))))))))))))))))
theorem GG_16 : wsL_law0_r16.all goodWord = true := by decide +kernel
theorem GL_17 : ∀ w ∈ wsL_law0_r17, w ∈ wsL_law := fun w h => (List.mem_append_left _ (List.mem_append_left _ (List.mem_append_left _ (List.mem_append_left _ (List.mem_append_left _ (List.mem_append_left _ (List.mem_append_left _ (List.mem_append_left _ (List.mem_append_left _ (List.mem_append_left _ (List.mem_append_left _ (List.mem_append_left _ (List.mem_append_right _ (List.mem_append_right _ (List.mem_append_right _ (List.mem_append_right _ (List.mem_append_right _ (List.mem_append_right _ (List.mem_append_right _ (List.mem_append_right _ (List.mem_append_right _ (List.mem_append_right _ (List.mem_append_right _ (List.mem_append_right _ (List.mem_append_right _ (List.mem_append_right _ (List.mem_append_right _ (List.mem_append_right _ (List.mem_append_left _ h)))))))))))))))))))))))))))))
theorem GG_17 : wsL_law0_r17.all goodWord = true := by decide +kernel
theorem GL_18 : ∀ w ∈ wsL_law0_r18, w ∈ wsL_law := fun w h => (List.mem_append_left _ (List.mem_append_left _ (List.mem_append_left _ (List.mem_append_left _ (List.mem_append_left _ (List.mem_append_left _ (List.mem_append_left _ (List.mem_append_left _ (List.mem_append_left _ (List.mem_append_left _ (List.mem_append_left _ (List.mem_append_left _ (List.mem_append_right _ (List.mem_append_right _ (List.mem_append_right _ (List.mem_append_right _ (List.mem_append_right _ (List.mem_append_right _ (List.mem_append_right _ (List.mem_append_right _ (List.mem_append_right _ (List.mem_append_right _ (List.mem_append_right _ (List.mem_append_right _ (List.mem_append_right _ (List.mem_append_right _ (List.mem_append_right _ (List.mem_append_right _ (List.mem_append_right _ (List.mem_append_left _ h))))))))))))))))))))))))))))))
theorem GG_18 : wsL_law0_r18.all goodWord = true := by decide +kernel
theorem GL_19 : ∀ w ∈ wsL_law0_r19, w ∈ wsL_law := fun w h => (List.mem_append_left _ (List.mem_append_left _ (List.mem_append_left _ (List.mem_append_left _ (List.mem_append_left _ (List.mem_append_left _ (List.mem_append_left _ (List.mem_append_left _ (List.mem_append_left _ (List.mem_append_left _ (List.mem_append_left _ (List.mem_append_left _ (List.mem_append_right _ (List.mem_append_right _ (List.mem_append_right _ (List.mem_append_right _ (List.mem_append_right _ (List.mem_append_right _ (List.mem_append_right _ (List.mem_append_right _ (List.mem_append_right _ (List.mem_append_right _ (List.mem_append_right _ (List.mem_append_right _ (List.mem_append_right _ (List.mem_append_right _ (List.mem_append_right _ (List.mem_append_right _ (List.mem_append_right _ (List.mem_append_right _ (List.mem_append_left _ h)))))))))))))))))))))))))))))))
theorem GG_19 : wsL_law0_r19.all goodWord = true := by decide +kernel
theorem GL_20 : ∀ w ∈ wsL_law0_r20, w ∈ wsL_law := fun w h => (List.mem_append_left _ (List.mem_append_left _ (List.mem_append_left _ (List.mem_append_left _ (List.mem_append_left _ (List.mem_append_left _ (List.mem_append_left _ (List.mem_append_left _ (List.mem_append_left _ (List.mem_append_left _ (List.mem_append_left _ (List.mem_append_left _ (List.mem_append_right _ (List.mem_append_right _ (List.mem_append_right _ (List.mem_append_right _ (List.mem_append_right _ (List.mem_append_right _ (List.mem_append_right _ (List.mem_append_right _ (List.mem_append_right _ (List.mem_append_right _ (List.mem_append_right _ (List.mem_append_right _ (List.mem_append_right _ (List.mem_append_right _ (List.mem_append_right _ (List.mem_append_right _ (List.mem_append_right _ (List.mem_append_right _ (List.mem_append_right _ (List.mem_append_left _ h))))))))))))))))))))))))))))))))
theorem GG_20 : wsL_law0_r20.all goodWord = true := by decide +kernel
theorem GL_21 : ∀ w ∈ wsL_law0_r21, w ∈ wsL_law := fun w h => (List.mem_append_left _ (List.mem_append_left _ (List.mem_append_left _ (List.mem_append_left _ (List.mem_append_left _ (List.mem_append_left _ (List.mem_append_left _ (List.mem_append_left _ (List.mem_append_left _ (List.mem_append_left _ (List.mem_append_left _ (List.mem_append_left _ (List.mem_append_right _ (List.mem_append_right _ (List.mem_append_right _ (List.mem_append_right _ (List.mem_append_right _ (List.mem_append_right _ (List.mem_append_right _ (List.mem_append_right _ (List.mem_append_right _ (List.mem_append_right _ (List.mem_append_right _ (List.mem_append_right _ (List.mem_append_right _ (List.mem_append_right _ (List.mem_append_right _ (List.mem_append_right _ (List.mem_append_right _ (List.mem_append_right _ (List.mem_append_right _ (List.mem_append_right _ (List.mem_append_left _ h)))))))))))))))))))))))))))))))))
theorem GG_21 : wsL_law0_r21.all goodWord = true := by decide +kernel
theorem GL_22 : ∀ w ∈ wsL_law0_r22, w ∈ wsL_law := fun w h => (List.mem_append_left _ (List.mem_append_left _ (List.mem_append_left _ (List.mem_append_left _ (List.mem_append_left _ (List.mem_append_left _ (List.mem_append_left _ (List.mem_append_left _ (List.mem_append_left _ (List.mem_append_left _ (List.mem_append_left _ (List.mem_append_left _ (List.mem_append_right _ (List.mem_append_right _ (List.mem_append_right _ (List.mem_append_right _ (List.mem_append_right _ (List.mem_append_right _ (List.mem_append_right _ (List.mem_append_right _ (List.mem_append_right _ (List.mem_append_right _ (List.mem_append_right _ (List.mem_append_right _ (List.mem_append_right _ (List.mem_append_right _ (List.mem_append_right _ (List.mem_append_right _ (List.mem_append_right _ (List.mem_append_right _ (List.mem_append_right _ (List.mem_append_right _ (List.mem_append_right _ (List.mem_append_left _ h))))))))))))))))))))))))))))))))))
theorem GG_22 : wsL_law0_r22.all goodWord = true := by decide +kernel
theorem GL_23 : ∀ w ∈ wsL_law0_r23, w ∈ wsL_law := fun w h => (List.mem_append_left _ (List.mem_append_left _ (List.mem_append_left _ (List.mem_append_left _ (List.mem_append_left _ (List.mem_append_left _ (List.mem_append_left _ (List.mem_append_left _ (List.mem_append_left _ (List.mem_append_left _ (List.mem_append_left _ (List.mem_append_left _ (List.mem_append_right _ (List.mem_append_right _ (List.mem_append_right _ (List.mem_append_right _ (List.mem_append_right _ (List.mem_append_right _ (List.mem_append_right _ (List.mem_append_right _ (List.mem_append_right _ (List.mem_append_right _ (List.mem_append_right _ (List.mem_append_right _ (List.mem_append_right _ (List.mem_append_right _ (List.mem_append_right _ (List.mem_append_right _ (List.mem_append_right _ (List.mem_append_right _ (List.mem_append_right _ (List.mem_append_right _ (List.mem_append_right _ (List.mem_append_right _ (List.mem_append_left _ h)))))))))))))))))))))))))))))))))))
theorem GG_23 : wsL_law0_r23.all goodWord = true := by decide +kernel
theorem GL_24 : ∀ w ∈ wsL_law0_r24, w ∈ wsL_law := fun w h => (List.mem_append_left _ (List.mem_append_left _ (List.mem_append_left _ (List.mem_append_left _ (List.mem_append_left _ (List.mem_append_left _ (List.mem_append_left _ (List.mem_append_left _ (List.mem_append_left _ (List.mem_append_left _ (List.mem_append_left _ (List.mem_append_left _ (List.mem_append_right _ (List.mem_append_right _ (List.mem_append_right _ (List.mem_append_right _ (List.mem_append_right _ (List.mem_append_right _ (List.mem_append_right _ (List.mem_append_right _ (List.mem_append_right _ (List.mem_append_right _ (List.mem_append_right _ (List.mem_append_right _ (List.mem_append_right _ (List.mem_append_right _ (List.mem_append_right _ (List.mem_append_right _ (List.mem_append_right _ (List.mem_append_right _ (List.mem_append_right _ (List.mem_append_right _ (List.mem_append_right _ (List.mem_append_right _ (List.mem_append_right _ (List.mem_append_left _ h))))))))))))))))))))))))))))))))))))
theorem GG_24 : wsL_law0_r24.all goodWord = true := by decide +kernel
theorem GL_25 : ∀ w ∈ wsL_law0_r25, w ∈ wsL_law := fun w h => (List.mem_append_left _ (List.mem_append_left _ (List.mem_append_left _ (List.mem_append_left _ (List.mem_append_left _ (List.mem_append_left _ (List.mem_append_left _ (List.mem_append_left _ (List.mem_append_left _ (List.mem_append_left _ (List.mem_append_left _ (List.mem_append_left _ (List.mem_append_right _ (List.mem_append_right _ (List.mem_append_right _ (List.mem_append_right _ (List.mem_append_right _ (List.mem_append_right _ (List.mem_append_right _ (List.mem_append_right _ (List.mem_append_right _ (List.mem_append_right _ (List.mem_append_right _ (List.mem_append_right _ (List.mem_append_right _ (List.mem_append_right _ (List.mem_append_right _ (List.mem_append_right _ (List.mem_append_right _ (List.mem_append_right _ (List.mem_append_right _ (List.mem_append_right _ (List.mem_append_right _ (List.mem_append_right _ (List.mem_append_right _ (List.mem_append_right _ (List.mem_append_left _ h)))))))))))))))))))))))))))))))))))))
theorem GG_25 : wsL_law0_r25.all goodWord = true := by decide +kernel
theorem GL_26 : ∀ w ∈ wsL_law0_r26, w ∈ wsL_law := fun w h => (List.mem_append_left _ (List.mem_append_left _ (List.mem_append_left _ (List.mem_append_left _ (List.mem_append_left _ (List.mem_append_left _ (List.mem_append_left _ (List.mem_append_left _ (List.mem_append_left _ (List.mem_append_left _ (List.mem_append_left _ (List.mem_append_left _ (List.mem_append_right _ (List.mem_append_right _ (List.mem_append_right _ (List.mem_append_right _ (List.mem_append_right _ (List.mem_append_right _ (List.mem_append_right _ (List.mem_append_right _ (List.mem_append_right _ (List.mem_append_right _ (List.mem_append_right _ (List.mem_append_right _ (List.mem_append_right _ (List.mem_append_right _ (List.mem_append_right _ (List.mem_append_right _ (List.mem_append_right _ (List.mem_append_right _ (List.mem_append_right _ (List.mem_append_right _ (List.mem_append_right _ (List.mem_append_right _ (List.mem_append_right _ (List.mem_append_right _ (List.mem_append_right _ (List.mem_append_left _ h))))))))))))))))))))))))))))))))))))))
theorem GG_26 : wsL_law0_r26.all goodWord = true := by decide +kernel
theorem GL_27 : ∀ w ∈ wsL_law0_r27, w ∈ wsL_law := fun w h => (List.mem_append_left _ (List.mem_append_left _ (List.mem_append_left _ (List.mem_append_left _ (List.mem_append_left _ (List.mem_append_left _ (List.mem_append_left _ (List.mem_append_left _ (List.mem_append_left _ (List.mem_append_left _ (List.mem_append_left _ (List.mem_append_left _ (List.mem_append_right _ (List.mem_append_right _ (List.mem_append_right _ (List.mem_append_right _ (List.mem_append_right _ (List.mem_append_right _ (List.mem_append_right _ (List.mem_append_right _ (List.mem_append_right _ (List.mem_append_right _ (List.mem_append_right _ (List.mem_append_right _ (List.mem_append_right _ (List.mem_append_right _ (List.mem_append_right _ (List.mem_append_right _ (List.mem_append_right _ (List.mem_append_right _ (List.mem_append_right _ (List.mem_append_right _ (List.mem_append_right _ (List.mem_append_right _ (List.mem_append_right _ (List.mem_append_right _ (List.mem_append_right _ (List.mem_append_right _ (List.mem_append_left _ h)))))))))))))))))))))))))))))))))))))))
theorem GG_27 : wsL_law0_r27.all goodWord = true := by decide +kernel
theorem GL_28 : ∀ w ∈ wsL_law0_r28, w ∈ wsL_law := fun w h => (List.mem_append_left _ (List.mem_append_left _ (List.mem_append_left _ (List.mem_append_left _ (List.mem_append_left _ (List.mem_append_left _ (List.mem_append_left _ (List.mem_append_left _ (List.mem_append_left _ (List.mem_append_left _ (List.mem_append_left _ (List.mem_append_left _ (List.mem_append_right _ (List.mem_append_right _ (List.mem_append_right _ (List.mem_append_right _ (List.mem_append_right _ (List.mem_append_right _ (List.mem_append_right _ (List.mem_append_right _ (List.mem_append_right _ (List.mem_append_right _ (List.mem_append_right _ (List.mem_append_right _ (List.mem_append_right _ (List.mem_append_right _ (List.mem_append_right _ (List.mem_append_right _ (List.mem_append_right _ (List.mem_append_right _ (List.mem_append_right _ (List.mem_append_right _ (List.mem_append_right _ (List.mem_append_right _ (List.mem_append_right _ (List.mem_append_right _ (List.mem_append_right _ (List.mem_append_right _ (List.mem_append_right _ (List.mem_append_left _ h))))))))))))))))))))))))))))))))))))))))
theorem GG_28 : wsL_law0_r28.all goodWord = true := by decide +kernel
theorem GL_29 : ∀ w ∈ wsL_law0_r29, w ∈ wsL_law := fun w h => (List.mem_append_left _ (List.mem_append_left _ (List.mem_append_left _ (List.mem_append_left _ (List.mem_append_left _ (List.mem_append_left _ (List.mem_append_left _ (List.mem_append_left _ (List.mem_append_left _ (List.mem_append_left _ (List.mem_append_left _ (List.mem_append_left _ (List.mem_append_right _ (List.mem_append_right _ (List.mem_append_right _ (List.mem_append_right _ (List.mem_append_right _ (List.mem_append_right _ (List.mem_append_right _ (List.mem_append_right _ (List.mem_append_right _ (List.mem_append_right _ (List.mem_append_right _ (List.mem_append_right _ (List.mem_append_right _ (List.mem_append_right _ (List.mem_append_right _ (List.mem_append_right _ (List.mem_append_right _ (List.mem_append_right _ (List.mem_append_right _ (List.mem_append_right _ (List.mem_append_right _ (List.mem_append_right _ (List.mem_append_right _ (List.mem_append_right _ (List.mem_append_right _ (List.mem_append_right _ (List.mem_append_right _ (List.mem_append_right _ (List.mem_append_left _ h)))))))))))))))))))))))))))))))))))))))))
theorem GG_29 : wsL_law0_r29.all goodWord = true := by decide +kernel
theorem GL_30 : ∀ w ∈ wsL_law0_r30, w ∈ wsL_law := fun w h => (List.mem_append_left _ (List.mem_append_left _ (List.mem_append_left _ (List.mem_append_left _ (List.mem_append_left _ (List.mem_append_left _ (List.mem_append_left _ (List.mem_append_left _ (List.mem_append_left _ (List.mem_append_left _ (List.mem_append_left _ (List.mem_append_left _ (List.mem_append_right _ (List.mem_append_right _ (List.mem_append_right _ (List.mem_append_right _ (List.mem_append_right _ (List.mem_append_right _ (List.mem_append_right _ (List.mem_append_right _ (List.mem_append_right _ (List.mem_append_right _ (List.mem_append_right _ (List.mem_append_right _ (List.mem_append_right _ (List.mem_append_right _ (List.mem_append_right _ (List.mem_append_right _ (List.mem_append_right _ (List.mem_append_right _ (List.mem_append_right _ (List.mem_append_right _ (List.mem_append_right _ (List.mem_append_right _ (List.mem_append_right _ (List.mem_append_right _ (List.mem_append_right _ (List.mem_append_right _ (List.mem_append_right _ (List.mem_append_right _ (List.mem_append_right _ (List.mem_append_left _ h))))))))))))))))))))))))))))))))))))))))))
theorem GG_30 : wsL_law0_r30.all goodWord = true := by decide +kernel
theorem GL_31 : ∀ w ∈ wsL_law0_r31, w ∈ wsL_law := fun w h => (List.mem_append_left _ (List.mem_append_left _ (List.mem_append_left _ (List.mem_append_left _ (List.mem_append_left _ (List.mem_append_left _ (List.mem_append_left _ (List.mem_append_left _ (List.mem_append_left _ (List.mem_append_left _ (List.mem_append_left _ (List.mem_append_left _ (List.mem_append_right _ (List.mem_append_right _ (List.mem_append_right _ (List.mem_append_right _ (List.mem_append_right _ (List.mem_append_right _ (List.mem_append_right _ (List.mem_append_right _ (List.mem_append_right _ (List.mem_append_right _ (List.mem_append_right _ (List.mem_append_right _ (List.mem_append_right _ (List.mem_append_right _ (List.mem_append_right _ (List.mem_append_right _ (List.mem_append_right _ (List.mem_append_right _ (List.mem_append_right _ (List.mem_append_right _ (List.mem_append_right _ (List.mem_append_right _ (List.mem_append_right _ (List.mem_append_right _ (List.mem_append_right _ (List.mem_append_right _ (List.mem_append_right _ (List.mem_append_right _ (List.mem_append_right _ (List.mem_append_right _ (List.mem_append_left _ h)))))))))))))))))))))))))))))))))))))))))))
theorem GG_31 : wsL_law0_r31.all goodWord = true := by decide +kernel
theorem GL_32 : ∀ w ∈ wsL_law0_r32, w ∈ wsL_law := fun w h => (List.mem_append_left _ (List.mem_append_left _ (List.mem_append_left _ (List.mem_append_left _ (List.mem_append_left _ (List.mem_append_left _ (List.mem_append_left _ (List.mem_append_left _ (List.mem_append_left _ (List.mem_append_left _ (List.mem_append_left _ (List.mem_append_left _ (List.mem_append_right _ (List.mem_append_right _ (List.mem_append_right _ (List.mem_append_right _ (List.mem_append_right _ (List.mem_append_right _ (List.mem_append_right _ (List.mem_append_right _ (List.mem_append_right _ (List.mem_append_right _ (List.mem_append_right _ (List.mem_append_right _ (List.mem_append_right _ (List.mem_append_right _ (List.mem_append_right _ (List.mem_append_right _ (List.mem_append_right _ (List.mem_append_right _ (List.mem_append_right _ (List.mem_append_right _ (List.mem_append_right _ (List.mem_append_right _ (List.mem_append_right _ (List.mem_append_right _ (List.mem_append_right _ (List.mem_append_right _ (List.mem_append_right _ (List.mem_append_right _ (List.mem_append_right _ (List.mem_append_right _ (List.mem_append_right _ (List.mem_append_left _ h))))))))))))))))))))))))))))))))))))))))))))
theorem GG_32 : wsL_law0_r32.all goodWord = true := by decide +kernel
theorem GL_33 : ∀ w ∈ wsL_law0_r33, w ∈ wsL_law := fun w h => (List.mem_append_left _ (List.mem_append_left _ (List.mem_append_left _ (List.mem_append_left _ (List.mem_append_left _ (List.mem_append_left _ (List.mem_append_left _ (List.mem_append_left _ (List.mem_append_left _ (List.mem_append_left _ (List.mem_append_left _ (List.mem_append_left _ (List.mem_append_right _ (List.mem_append_right _ (List.mem_append_right _ (List.mem_append_right _ (List.mem_append_right _ (List.mem_append_right _ (List.mem_append_right _ (List.mem_append_right _ (List.mem_append_right _ (List.mem_append_right _ (List.mem_append_right _ (List.mem_append_right _ (List.mem_append_right _ (List.mem_append_right _ (List.mem_append_right _ (List.mem_append_right _ (List.mem_append_right _ (List.mem_append_right _ (List.mem_append_right _ (List.mem_append_right _ (List.mem_append_right _ (List.mem_append_right _ (List.mem_append_right _ (List.mem_append_right _ (List.mem_append_right _ (List.mem_append_right _ (List.mem_append_right _ (List.mem_append_right _ (List.mem_append_right _ (List.mem_append_right _ (List.mem_append_right _ (List.mem_append_right _ (List.mem_append_left _ h)))))))))))))))))))))))))))))))))))))))))))))
theorem GG_33 : wsL_law0_r33.all goodWord = true := by decide +kernel
theorem GL_34 : ∀ w ∈ wsL_law0_r34, w ∈ wsL_law := fun w h => (List.mem_append_left _ (List.mem_append_left _ (List.mem_append_left _ (List.mem_append_left _ (List.mem_append_left _ (List.mem_append_left _ (List.mem_append_left _ (List.mem_append_left _ (List.mem_append_left _ (List.mem_append_left _ (List.mem_append_left _ (List.mem_append_left _ (List.mem_append_right _ (List.mem_append_right _ (List.mem_append_right _ (List.mem_append_right _ (List.mem_append_right _ (List.mem_append_right _ (List.mem_append_right _ (List.mem_append_right _ (List.mem_append_right _ (List.mem_append_right _ (List.mem_append_right _ (List.mem_append_right _ (List.mem_append_right _ (List.mem_append_right _ (List.mem_append_right _ (List.mem_append_right _ (List.mem_append_right _ (List.mem_append_right _ (List.mem_append_right _ (List.mem_append_right _ (List.mem_append_right _ (List.mem_append_right _ (List.mem_append_right _ (List.mem_append_right _ (List.mem_append_right _ (List.mem_append_right _ (List.mem_append_right _ (List.mem_append_right _ (List.mem_append_right _ (List.mem_append_right _ (List.mem_append_right _ (List.mem_append_right _ (List.mem_append_right _ (List.mem_append_left _ h))))))))))))))))))))))))))))))))))))))))))))))
theorem GG_34 : wsL_law0_r34.all goodWord = true := by decide +kernel
theorem GL_35 : ∀ w ∈ wsL_law0_r35, w ∈ wsL_law := fun w h => (List.mem_append_left _ (List.mem_append_left _ (List.mem_append_left _ (List.mem_append_left _ (List.mem_append_left _ (List.mem_append_left _ (List.mem_append_left _ (List.mem_append_left _ (List.mem_append_left _ (List.mem_append_left _ (List.mem_append_left _ (List.mem_append_left _ (List.mem_append_right _ (List.mem_append_right _ (List.mem_append_right _ (List.mem_append_right _ (List.mem_append_right _ (List.mem_append_right _ (List.mem_append_right _ (List.mem_append_right _ (List.mem_append_right _ (List.mem_append_right _ (List.mem_append_right _ (List.mem_append_right _ (List.mem_append_right _ (List.mem_append_right _ (List.mem_append_right _ (List.mem_append_right _ (List.mem_append_right _ (List.mem_append_right _ (List.mem_append_right _ (List.mem_append_right _ (List.mem_append_right _ (List.mem_append_right _ (List.mem_append_right _ (List.mem_append_right _ (List.mem_append_right _ (List.mem_append_right _ (List.mem_append_right _ (List.mem_append_right _ (List.mem_append_right _ (List.mem_append_right _ (List.mem_append_right _ (List.mem_append_right _ (List.mem_append_right _ (List.mem_append_right _ (List.mem_append_left _ h)))))))))))))))))))))))))))))))))))))))))))))))
theorem GG_35 : wsL_law0_r35.all goodWord = true := by decide +kernel
theorem GL_36 : ∀ w ∈ wsL_law0_r36, w ∈ wsL_law := fun w h => (List.mem_append_left _ (List.mem_append_left _ (List.mem_append_left _ (List.mem_append_left _ (List.mem_append_left _ (List.mem_append_left _ (List.mem_append_left _ (List.mem_append_left _ (List.mem_append_left _ (List.mem_append_left _ (List.mem_append_left _ (List.mem_append_left _ (List.mem_append_right _ (List.mem_append_right _ (List.mem_append_right _ (List.mem_append_right _ (List.mem_append_right _ (List.mem_append_right _ (List.mem_append_right _ (List.mem_append_right _ (List.mem_append_right _ (List.mem_append_right _ (List.mem_append_right _ (List.mem_append_right _ (List.mem_append_right _ (List.mem_append_right _ (List.mem_append_right _ (List.mem_append_right _ (List.mem_append_right _ (List.mem_append_right _ (List.mem_append_right _ (List.mem_append_right _ (List.mem_append_right _ (List.mem_append_right _ (List.mem_append_right _ (List.mem_append_right _ (List.mem_append_right _ (List.mem_append_right _ (List.mem_append_right _ (List.mem_append_right _ (List.mem_append_right _ (List.mem_append_right _ (List.mem_append_right _ (List.mem_append_right _ (List.mem_append_right _ (List.mem_append_right _ (List.mem_append_right _ (List.mem_append_left _ h))))))))))))))))))))))))))))))))))))))))))))))))
theorem GG_36 : wsL_law0_r36.all goodWord = true := by decide +kernel
theorem GL_37 : ∀ w ∈ wsL_law0_r37, w ∈ wsL_law := fun w h => (List.mem_append_left _ (List.mem_append_left _ (List.mem_append_left _ (List.mem_append_left _ (List.mem_append_left _ (List.mem_append_left _ (List.mem_append_left _ (List.mem_append_left _ (List.mem_append_left _ (List.mem_append_left _ (List.mem_append_left _ (List.mem_append_left _ (List.mem_append_right _ (List.mem_append_right _ (List.mem_append_right _ (List.mem_append_right _ (List.mem_append_right _ (List.mem_append_right _ (List.mem_append_right _ (List.mem_append_right _ (List.mem_append_right _ (List.mem_append_right _ (List.mem_append_right _ (List.mem_append_right _ (List.mem_append_right _ (List.mem_append_right _ (List.mem_append_right _ (List.mem_append_right _ (List.mem_append_right _ (List.mem_append_right _ (List.mem_append_right _ (List.mem_append_right _ (List.mem_append_right _ (List.mem_append_right _ (List.mem_append_right _ (List.mem_append_right _ (List.mem_append_right _ (List.mem_append_right _ (List.mem_append_right _ (List.mem_append_right _ (List.mem_append_right _ (List.mem_append_right _ (List.mem_append_right _ (List.mem_append_right _ (List.mem_append_right _ (List.mem_append_right _ (List.mem_append_right _ (List.mem_append_right _ (List.mem_append_left _ h)))))))))))))))))))))))))))))))))))))))))))))))))
theorem GG_37 : wsL_law0_r37.all goodWord = true := by decide +kernel
theorem GL_38 : ∀ w ∈ wsL_law0_r38, w ∈ wsL_law := fun w h => (List.mem_append_left _ (List.mem_append_left _ (List.mem_append_left _ (List.mem_append_left _ (List.mem_append_left _ (List.mem_append_left _ (List.mem_append_left _ (List.mem_append_left _ (List.mem_append_left _ (List.mem_append_left _ (List.mem_append_left _ (List.mem_append_left _ (List.mem_append_right _ (List.mem_append_right _ (List.mem_append_right _ (List.mem_append_right _ (List.mem_append_right _ (List.mem_append_right _ (List.mem_append_right _ (List.mem_append_right _ (List.mem_append_right _ (List.mem_append_right _ (List.mem_append_right _ (List.mem_append_right _ (List.mem_append_right _ (List.mem_append_right _ (List.mem_append_right _ (List.mem_append_right _ (List.mem_append_right _ (List.mem_append_right _ (List.mem_append_right _ (List.mem_append_right _ (List.mem_append_right _ (List.mem_append_right _ (List.mem_append_right _ (List.mem_append_right _ (List.mem_append_right _ (List.mem_append_right _ (List.mem_append_right _ (List.mem_append_right _ (List.mem_append_right _ (List.mem_append_right _ (List.mem_append_right _ (List.mem_append_right _ (List.mem_append_right _ (List.mem_append_right _ (List.mem_append_right _ (List.mem_append_right _ (List.mem_append_right _ (List.mem_append_left _ h))))))))))))))))))))))))))))))))))))))))))))))))))
theorem GG_38 : wsL_law0_r38.all goodWord = true := by decide +kernel
theorem GL_39 : ∀ w ∈ wsL_law0_r39, w ∈ wsL_law := fun w h => (List.mem_append_left _ (List.mem_append_left _ (List.mem_append_left _ (List.mem_append_left _ (List.mem_append_left _ (List.mem_append_left _ (List.mem_append_left _ (List.mem_append_left _ (List.mem_append_left _ (List.mem_append_left _ (List.mem_append_left _ (List.mem_append_left _ (List.mem_append_right _ (List.mem_append_right _ (List.mem_append_right _ (List.mem_append_right _ (List.mem_append_right _ (List.mem_append_right _ (List.mem_append_right _ (List.mem_append_right _ (List.mem_append_right _ (List.mem_append_right _ (List.mem_append_right _ (List.mem_append_right _ (List.mem_append_right _ (List.mem_append_right _ (List.mem_append_right _ (List.mem_append_right _ (List.mem_append_right _ (List.mem_append_right _ (List.mem_append_right _ (List.mem_append_right _ (List.mem_append_right _ (List.mem_append_right _ (List.mem_append_right _ (List.mem_append_right _ (List.mem_append_right _ (List.mem_append_right _ (List.mem_append_right _ (List.mem_append_right _ (List.mem_append_right _ (List.mem_append_right _ (List.mem_append_right _ (List.mem_append_right _ (List.mem_append_right _ (List.mem_append_right _ (List.mem_append_right _ (List.mem_append_right _ (List.mem_append_right _ (List.mem_append_right _ h))))))))))))))))))))))))))))))))))))))))))))))))))
theorem GG_39 : wsL_law0_r39.all goodWord = true := by decide +kernel
theorem GX_6 : wsX60.all goodWord = true := by decide +kernel
theorem GX_7 : wsX70.all goodWord = true := by decide +kernel
theorem GX_3 : wsX30.all goodWord = true := by decide +kernel
theorem GX_1 : wsX10.all goodWord = true := by decide +kernel
theorem GX_5 : wsX50.all goodWord = true := by decide +kernel
theorem GX_4 : wsX40.all goodWord = true := by decide +kernel
theorem GX_2 : wsX20.all goodWord = true := by decide +kernel
theorem GX_0 : wsX00.all goodWord = true := by decide +kernel
theorem GT_56 : ∀ w ∈ (vx_atS RX6 56 "java/lang/IllegalStateException" ["java/lang/RuntimeException", "java/lang/Exception"]).filter goodWord, w ∈ wsL_law := fun w h => (List.mem_append_left _ (List.mem_append_left _ (List.mem_append_right _ h)))
theorem GT_110 : ∀ w ∈ (vx_atS RX6 110 "java/lang/IndexOutOfBoundsException" ["java/lang/RuntimeException", "java/lang/Exception"]).filter goodWord, w ∈ wsL_law := fun w h => (List.mem_append_left _ (List.mem_append_right _ h))
theorem GT_96 : ∀ w ∈ (vx_atS RX6 96 "java/lang/IllegalArgumentException" ["java/lang/RuntimeException", "java/lang/Exception"]).filter goodWord, w ∈ wsL_law := fun w h => (List.mem_append_right _ h)
theorem all_app {l1 l2 : List Cond} (h1 : l1.all goodWord = true) (h2 : l2.all goodWord = true) : (l1 ++ l2).all goodWord = true := by rw [List.all_append, h1, h2]; rfl
theorem all_flt (l1 : List Cond) : (l1.filter goodWord).all goodWord = true := List.all_eq_true.mpr fun w h => (List.mem_filter.mp h).2
theorem GG_0 : wsL_law0.all goodWord = true := (all_app (all_app (all_app (all_app (all_app (all_app (all_app (all_app (all_app (all_app GG_1 (all_app GG_2 (all_app GG_3 (all_app GG_4 (all_app GG_5 (all_app GG_6 (all_app GG_7 (all_app GG_8 (all_app GG_9 (all_app GG_10 (all_app GG_11 (all_app GG_12 (all_app GG_13 (all_app GG_14 (all_app GG_15 (all_app GG_16 (all_app GG_17 (all_app GG_18 (all_app GG_19 (all_app GG_20 (all_app GG_21 (all_app GG_22 (all_app GG_23 (all_app GG_24 (all_app GG_25 (all_app GG_26 (all_app GG_27 (all_app GG_28 (all_app GG_29 (all_app GG_30 (all_app GG_31 (all_app GG_32 (all_app GG_33 (all_app GG_34 (all_app GG_35 (all_app GG_36 (all_app GG_37 (all_app GG_38 GG_39)))))))))))))))))))))))))))))))))))))) GX_6) GX_7) GX_3) GX_1) GX_5) GX_4) GX_2) GX_0) (rfl : ([] : List Cond).all goodWord = true))
theorem GG_all : wsL_law.all goodWord = true := (all_app (all_app (all_app GG_0 (all_flt _)) (all_flt _)) (all_flt _))
/-- a method's words: its code first, then the one list -/
abbrev WW (w : Cond) : List Cond := w :: wsL_law
theorem gl_W {w w1 : Cond} (h : w1 ∈ wsL_law) : GoodIn (WW w) (WW w1) := fun v hv => by
  have h1 : v ∈ wsL_law := (List.mem_cons.mp hv).elim (fun e => e ▸ h) id
  exact ⟨List.mem_cons_of_mem _ h1, good_of_word (List.all_eq_true.mp GG_all v h1)⟩
theorem gl_in {w v : Cond} (h : v ∈ wsL_law) : v ∈ WW w ∧ ((v.onTables && v.keeps) = true ∨ ∃ ty, v = .arrayClass ty) := ⟨List.mem_cons_of_mem _ h, good_of_word (List.all_eq_true.mp GG_all v h)⟩
theorem gl_V {w w1 : Cond} {own C : String} {ix : Nat} {y : MethodName} (h0 : .methodLink own ix y ∈ wsL_law) (h1 : .instanceMethod y ∈ wsL_law) (h2 : .selects C y y ∈ wsL_law) (h3 : .initialized C ∈ wsL_law) (h4 : w1 ∈ wsL_law) : GoodIn (WW w) (wsV own ix C y (WW w1)) := by
  intro v hv
  rcases List.mem_append.mp hv with hv | hv
  · simp only [List.mem_cons, List.not_mem_nil, or_false] at hv
    rcases hv with rfl | rfl | rfl | rfl <;> first | exact gl_in h0 | exact gl_in h1 | exact gl_in h2 | exact gl_in h3
  · exact gl_W h4 v hv
theorem gl_S {w w1 : Cond} {own : String} {ix : Nat} {y : MethodName} (h0 : .methodLink own ix y ∈ wsL_law) (h1 : .static y ∈ wsL_law) (h3 : .initialized y.cls ∈ wsL_law) (h4 : w1 ∈ wsL_law) : GoodIn (WW w) (va_wsS own ix y (WW w1)) := by
  intro v hv
  rcases List.mem_append.mp hv with hv | hv
  · simp only [List.mem_cons, List.not_mem_nil, or_false] at hv
    rcases hv with rfl | rfl | rfl <;> first | exact gl_in h0 | exact gl_in h1 | exact gl_in h3
  · exact gl_W h4 v hv
