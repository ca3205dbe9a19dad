/-! ===== BEGIN printed: names, fields, word lists, decode rows ===== -/
def RX0 : String := "SightLegend$Box"
def TX0 : u_T := fun k => match k with
  | 0 => ("SightLegend$Box", "corner", "I", false)
  | 1 => ("SightLegend$Box", "left", "I", false)
  | 2 => ("SightLegend$Box", "top", "I", false)
  | 3 => ("SightLegend$Box", "width", "I", false)
  | 4 => ("SightLegend$Box", "height", "I", false)
  | _ => ("SightLegend$Box", "covered", "I", false)
def tyX0 : Nat → FieldType := fun k => match k with
  | 0 => .int
  | 1 => .int
  | 2 => .int
  | 3 => .int
  | 4 => .int
  | _ => .int
abbrev wsX00 : List Cond := u_ws RX0 TX0 6
theorem nmX0 : ∀ a, a < 6 → ∀ b, b < 6 → a ≠ b → (TX0 a).2.1 ≠ (TX0 b).2.1 := by decide +kernel
theorem tyX0_ok : ∀ k, k < 6 → parseFieldDescriptor (TX0 k).2.2.1 = some (tyX0 k) := by decide +kernel
abbrev cX0_init : ByteArray := prog_2_method_1_code
def yX0_init : MethodName := ⟨RX0, "<init>", "()V"⟩
abbrev cX0_place : ByteArray := prog_2_method_2_code
def yX0_place : MethodName := ⟨RX0, "place", "(LSightLegend$MapState;LSightLegend$Lines;[Z)V"⟩
abbrev cX0_vanish : ByteArray := prog_2_method_3_code
def yX0_vanish : MethodName := ⟨RX0, "vanish", "()V"⟩
abbrev cX0_moveTo : ByteArray := prog_2_method_4_code
def yX0_moveTo : MethodName := ⟨RX0, "moveTo", "(LSightLegend$MapState;I)V"⟩
abbrev cX0_countCovered : ByteArray := prog_2_method_5_code
def yX0_countCovered : MethodName := ⟨RX0, "countCovered", "(LSightLegend$MapState;[Z)I"⟩
abbrev cX0_covers : ByteArray := prog_2_method_6_code
def yX0_covers : MethodName := ⟨RX0, "covers", "(LSightLegend$MapState;I)Z"⟩
abbrev cX0_fact : ByteArray := prog_2_method_7_code
def yX0_fact : MethodName := ⟨RX0, "fact", "(I)I"⟩
def RX1 : String := "SightLegend$Legend"
def TX1 : u_T := fun k => match k with
  | 0 => ("SightLegend$Legend", "stands", "Z", false)
  | 1 => ("SightLegend$Legend", "shown", "[Z", true)
  | 2 => ("SightLegend$Legend", "inSight", "[Z", true)
  | 3 => ("SightLegend$Legend", "shownCount", "I", false)
  | 4 => ("SightLegend$Legend", "explainedCount", "I", false)
  | 5 => ("SightLegend$Legend", "ranges", "LSightLegend$Ranges;", true)
  | 6 => ("SightLegend$Legend", "now", "LSightLegend$Lines;", true)
  | 7 => ("SightLegend$Legend", "before", "LSightLegend$Lines;", true)
  | 8 => ("SightLegend$Legend", "box", "LSightLegend$Box;", true)
  | 9 => ("SightLegend$Legend", "roundCount", "I", false)
  | 10 => ("SightLegend$Legend", "stays", "Z", false)
  | _ => ("SightLegend$Legend", "firstLineCount", "I", false)
def tyX1 : Nat → FieldType := fun k => match k with
  | 0 => .boolean
  | 1 => .array .boolean
  | 2 => .array .boolean
  | 3 => .int
  | 4 => .int
  | 5 => .object "SightLegend$Ranges"
  | 6 => .object "SightLegend$Lines"
  | 7 => .object "SightLegend$Lines"
  | 8 => .object "SightLegend$Box"
  | 9 => .int
  | 10 => .boolean
  | _ => .int
abbrev wsX10 : List Cond := u_ws RX1 TX1 12
theorem nmX1 : ∀ a, a < 12 → ∀ b, b < 12 → a ≠ b → (TX1 a).2.1 ≠ (TX1 b).2.1 := by decide +kernel
theorem tyX1_ok : ∀ k, k < 12 → parseFieldDescriptor (TX1 k).2.2.1 = some (tyX1 k) := by decide +kernel
abbrev cX1_init : ByteArray := prog_3_method_1_code
def yX1_init : MethodName := ⟨RX1, "<init>", "()V"⟩
abbrev cX1_make : ByteArray := prog_3_method_2_code
def yX1_make : MethodName := ⟨RX1, "make", "(LSightLegend$MapState;)V"⟩
abbrev cX1_seeAllShown : ByteArray := prog_3_method_3_code
def yX1_seeAllShown : MethodName := ⟨RX1, "seeAllShown", "(LSightLegend$MapState;)V"⟩
abbrev cX1_hideCovered : ByteArray := prog_3_method_4_code
def yX1_hideCovered : MethodName := ⟨RX1, "hideCovered", "(LSightLegend$MapState;)V"⟩
abbrev cX1_makeRound : ByteArray := prog_3_method_5_code
def yX1_makeRound : MethodName := ⟨RX1, "makeRound", "(LSightLegend$MapState;I)V"⟩
abbrev cX1_countCoveredInSight : ByteArray := prog_3_method_6_code
def yX1_countCoveredInSight : MethodName := ⟨RX1, "countCoveredInSight", "(LSightLegend$MapState;)I"⟩
abbrev cX1_lineOf : ByteArray := prog_3_method_7_code
def yX1_lineOf : MethodName := ⟨RX1, "lineOf", "(LSightLegend$MapState;I)I"⟩
def RX2 : String := "SightLegend$Lines"
def TX2 : u_T := fun k => match k with
  | 0 => ("SightLegend$Lines", "size", "I", false)
  | 1 => ("SightLegend$Lines", "type", "[I", true)
  | 2 => ("SightLegend$Lines", "kind", "[I", true)
  | 3 => ("SightLegend$Lines", "group", "[I", true)
  | 4 => ("SightLegend$Lines", "first", "[I", true)
  | 5 => ("SightLegend$Lines", "last", "[I", true)
  | 6 => ("SightLegend$Lines", "signs", "[I", true)
  | 7 => ("SightLegend$Lines", "column", "[I", true)
  | 8 => ("SightLegend$Lines", "place", "[I", true)
  | 9 => ("SightLegend$Lines", "usedColumns", "I", false)
  | 10 => ("SightLegend$Lines", "tallest", "I", false)
  | 11 => ("SightLegend$Lines", "order", "[I", true)
  | 12 => ("SightLegend$Lines", "orderSize", "I", false)
  | _ => ("SightLegend$Lines", "groupDone", "[Z", true)
def tyX2 : Nat → FieldType := fun k => match k with
  | 0 => .int
  | 1 => .array .int
  | 2 => .array .int
  | 3 => .array .int
  | 4 => .array .int
  | 5 => .array .int
  | 6 => .array .int
  | 7 => .array .int
  | 8 => .array .int
  | 9 => .int
  | 10 => .int
  | 11 => .array .int
  | 12 => .int
  | _ => .array .boolean
abbrev wsX20 : List Cond := u_ws RX2 TX2 14
theorem nmX2 : ∀ a, a < 14 → ∀ b, b < 14 → a ≠ b → (TX2 a).2.1 ≠ (TX2 b).2.1 := by decide +kernel
theorem tyX2_ok : ∀ k, k < 14 → parseFieldDescriptor (TX2 k).2.2.1 = some (tyX2 k) := by decide +kernel
abbrev cX2_init : ByteArray := prog_4_method_1_code
def yX2_init : MethodName := ⟨RX2, "<init>", "()V"⟩
abbrev cX2_copyFrom : ByteArray := prog_4_method_2_code
def yX2_copyFrom : MethodName := ⟨RX2, "copyFrom", "(LSightLegend$Lines;)V"⟩
abbrev cX2_isSameAs : ByteArray := prog_4_method_3_code
def yX2_isSameAs : MethodName := ⟨RX2, "isSameAs", "(LSightLegend$Lines;)Z"⟩
abbrev cX2_compose : ByteArray := prog_4_method_4_code
def yX2_compose : MethodName := ⟨RX2, "compose", "(LSightLegend$MapState;LSightLegend$Ranges;)V"⟩
abbrev cX2_orderKinds : ByteArray := prog_4_method_5_code
def yX2_orderKinds : MethodName := ⟨RX2, "orderKinds", "(LSightLegend$MapState;LSightLegend$Ranges;)V"⟩
abbrev cX2_addGroup : ByteArray := prog_4_method_6_code
def yX2_addGroup : MethodName := ⟨RX2, "addGroup", "(LSightLegend$MapState;ILSightLegend$Ranges;)V"⟩
abbrev cX2_addKindLines : ByteArray := prog_4_method_7_code
def yX2_addKindLines : MethodName := ⟨RX2, "addKindLines", "(IILSightLegend$Ranges;)V"⟩
abbrev cX2_add : ByteArray := prog_4_method_8_code
def yX2_add : MethodName := ⟨RX2, "add", "(IIIIII)V"⟩
abbrev cX2_layOut : ByteArray := prog_4_method_9_code
def yX2_layOut : MethodName := ⟨RX2, "layOut", "(I)V"⟩
abbrev cX2_countOfKind : ByteArray := prog_4_method_10_code
def yX2_countOfKind : MethodName := ⟨RX2, "countOfKind", "(I)I"⟩
abbrev cX2_fact : ByteArray := prog_4_method_11_code
def yX2_fact : MethodName := ⟨RX2, "fact", "(II)I"⟩
def RX3 : String := "SightLegend$MapState"
def TX3 : u_T := fun k => match k with
  | 0 => ("SightLegend$MapState", "signKind", "[I", true)
  | 1 => ("SightLegend$MapState", "signColumn", "[I", true)
  | 2 => ("SightLegend$MapState", "signRow", "[I", true)
  | 3 => ("SightLegend$MapState", "signValue", "[I", true)
  | 4 => ("SightLegend$MapState", "signLevel", "[I", true)
  | 5 => ("SightLegend$MapState", "signCount", "I", false)
  | 6 => ("SightLegend$MapState", "rank", "[I", true)
  | 7 => ("SightLegend$MapState", "group", "[I", true)
  | 8 => ("SightLegend$MapState", "limitCount", "[I", true)
  | 9 => ("SightLegend$MapState", "limits", "[I", true)
  | 10 => ("SightLegend$MapState", "way", "[I", true)
  | 11 => ("SightLegend$MapState", "window", "[I", true)
  | _ => ("SightLegend$MapState", "settings", "[I", true)
def tyX3 : Nat → FieldType := fun k => match k with
  | 0 => .array .int
  | 1 => .array .int
  | 2 => .array .int
  | 3 => .array .int
  | 4 => .array .int
  | 5 => .int
  | 6 => .array .int
  | 7 => .array .int
  | 8 => .array .int
  | 9 => .array .int
  | 10 => .array .int
  | 11 => .array .int
  | _ => .array .int
abbrev wsX30 : List Cond := u_ws RX3 TX3 13
theorem nmX3 : ∀ a, a < 13 → ∀ b, b < 13 → a ≠ b → (TX3 a).2.1 ≠ (TX3 b).2.1 := by decide +kernel
theorem tyX3_ok : ∀ k, k < 13 → parseFieldDescriptor (TX3 k).2.2.1 = some (tyX3 k) := by decide +kernel
abbrev cX3_init : ByteArray := prog_5_method_1_code
def yX3_init : MethodName := ⟨RX3, "<init>", "()V"⟩
abbrev cX3_copyFrom : ByteArray := prog_5_method_2_code
def yX3_copyFrom : MethodName := ⟨RX3, "copyFrom", "(LSightLegend$MapState;)V"⟩
abbrev cX3_takeSigns : ByteArray := prog_5_method_3_code
def yX3_takeSigns : MethodName := ⟨RX3, "takeSigns", "(LSightLegend$MapState;)V"⟩
abbrev cX3_putSign : ByteArray := prog_5_method_4_code
def yX3_putSign : MethodName := ⟨RX3, "putSign", "(IIIII)V"⟩
abbrev cX3_dropSign : ByteArray := prog_5_method_5_code
def yX3_dropSign : MethodName := ⟨RX3, "dropSign", "(I)V"⟩
abbrev cX3_isInWindow : ByteArray := prog_5_method_6_code
def yX3_isInWindow : MethodName := ⟨RX3, "isInWindow", "(I)Z"⟩
abbrev cX3_isShown : ByteArray := prog_5_method_7_code
def yX3_isShown : MethodName := ⟨RX3, "isShown", "(I)Z"⟩
abbrev cX3_countShown : ByteArray := prog_5_method_8_code
def yX3_countShown : MethodName := ⟨RX3, "countShown", "()I"⟩
abbrev cX3_classOf : ByteArray := prog_5_method_9_code
def yX3_classOf : MethodName := ⟨RX3, "classOf", "(I)I"⟩
abbrev cX3_limitAt : ByteArray := prog_5_method_10_code
def yX3_limitAt : MethodName := ⟨RX3, "limitAt", "(II)I"⟩
abbrev cX3_hasLimit : ByteArray := prog_5_method_11_code
def yX3_hasLimit : MethodName := ⟨RX3, "hasLimit", "(II)Z"⟩
abbrev cX3_putLimit : ByteArray := prog_5_method_12_code
def yX3_putLimit : MethodName := ⟨RX3, "putLimit", "(II)V"⟩
abbrev cX3_dropLimit : ByteArray := prog_5_method_13_code
def yX3_dropLimit : MethodName := ⟨RX3, "dropLimit", "(II)V"⟩
def RX4 : String := "SightLegend$Ranges"
def TX4 : u_T := fun k => match k with
  | 0 => ("SightLegend$Ranges", "total", "[I", true)
  | 1 => ("SightLegend$Ranges", "classSigns", "[I", true)
  | 2 => ("SightLegend$Ranges", "size", "[I", true)
  | 3 => ("SightLegend$Ranges", "first", "[I", true)
  | 4 => ("SightLegend$Ranges", "last", "[I", true)
  | _ => ("SightLegend$Ranges", "signs", "[I", true)
def tyX4 : Nat → FieldType := fun k => match k with
  | 0 => .array .int
  | 1 => .array .int
  | 2 => .array .int
  | 3 => .array .int
  | 4 => .array .int
  | _ => .array .int
abbrev wsX40 : List Cond := u_ws RX4 TX4 6
theorem nmX4 : ∀ a, a < 6 → ∀ b, b < 6 → a ≠ b → (TX4 a).2.1 ≠ (TX4 b).2.1 := by decide +kernel
theorem tyX4_ok : ∀ k, k < 6 → parseFieldDescriptor (TX4 k).2.2.1 = some (tyX4 k) := by decide +kernel
abbrev cX4_init : ByteArray := prog_6_method_1_code
def yX4_init : MethodName := ⟨RX4, "<init>", "()V"⟩
abbrev cX4_build : ByteArray := prog_6_method_2_code
def yX4_build : MethodName := ⟨RX4, "build", "(LSightLegend$MapState;[Z)V"⟩
abbrev cX4_countSigns : ByteArray := prog_6_method_3_code
def yX4_countSigns : MethodName := ⟨RX4, "countSigns", "(LSightLegend$MapState;[Z)V"⟩
abbrev cX4_takeClasses : ByteArray := prog_6_method_4_code
def yX4_takeClasses : MethodName := ⟨RX4, "takeClasses", "(I)V"⟩
abbrev cX4_joinFewest : ByteArray := prog_6_method_5_code
def yX4_joinFewest : MethodName := ⟨RX4, "joinFewest", "(I)V"⟩
def RX5 : String := "SightLegend$SignText"
def TX5 : u_T := fun k => match k with
  | 0 => ("SightLegend$SignText", "bytes", "[I", true)
  | 1 => ("SightLegend$SignText", "length", "I", false)
  | 2 => ("SightLegend$SignText", "signs", "LSightLegend$MapState;", true)
  | 3 => ("SightLegend$SignText", "error", "I", false)
  | _ => ("SightLegend$SignText", "at", "I", false)
def tyX5 : Nat → FieldType := fun k => match k with
  | 0 => .array .int
  | 1 => .int
  | 2 => .object "SightLegend$MapState"
  | 3 => .int
  | _ => .int
abbrev wsX50 : List Cond := u_ws RX5 TX5 5
theorem nmX5 : ∀ a, a < 5 → ∀ b, b < 5 → a ≠ b → (TX5 a).2.1 ≠ (TX5 b).2.1 := by decide +kernel
theorem tyX5_ok : ∀ k, k < 5 → parseFieldDescriptor (TX5 k).2.2.1 = some (tyX5 k) := by decide +kernel
abbrev cX5_init : ByteArray := prog_7_method_1_code
def yX5_init : MethodName := ⟨RX5, "<init>", "()V"⟩
def RX6 : String := "SightLegend"
def TX6 : u_T := fun k => match k with
  | 0 => ("SightLegend", "map", "LSightLegend$MapState;", true)
  | 1 => ("SightLegend", "legend", "LSightLegend$Legend;", true)
  | 2 => ("SightLegend", "otherMap", "LSightLegend$MapState;", true)
  | 3 => ("SightLegend", "otherLegend", "LSightLegend$Legend;", true)
  | 4 => ("SightLegend", "text", "LSightLegend$SignText;", true)
  | 5 => ("SightLegend", "saved", "[LSightLegend$MapState;", true)
  | 6 => ("SightLegend", "oldestSaved", "I", false)
  | _ => ("SightLegend", "savedCount", "I", false)
def tyX6 : Nat → FieldType := fun k => match k with
  | 0 => .object "SightLegend$MapState"
  | 1 => .object "SightLegend$Legend"
  | 2 => .object "SightLegend$MapState"
  | 3 => .object "SightLegend$Legend"
  | 4 => .object "SightLegend$SignText"
  | 5 => .array (.object "SightLegend$MapState")
  | 6 => .int
  | _ => .int
abbrev wsX60 : List Cond := u_ws RX6 TX6 8
theorem nmX6 : ∀ a, a < 8 → ∀ b, b < 8 → a ≠ b → (TX6 a).2.1 ≠ (TX6 b).2.1 := by decide +kernel
theorem tyX6_ok : ∀ k, k < 8 → parseFieldDescriptor (TX6 k).2.2.1 = some (tyX6 k) := by decide +kernel
abbrev cX6_init : ByteArray := prog_1_method_1_code
def yX6_init : MethodName := ⟨RX6, "<init>", "()V"⟩
abbrev cX6_addSign : ByteArray := prog_1_method_2_code
def yX6_addSign : MethodName := ⟨RX6, "addSign", "(IIIII)I"⟩
abbrev cX6_removeSign : ByteArray := prog_1_method_3_code
def yX6_removeSign : MethodName := ⟨RX6, "removeSign", "(I)I"⟩
abbrev cX6_moveSign : ByteArray := prog_1_method_4_code
def yX6_moveSign : MethodName := ⟨RX6, "moveSign", "(III)I"⟩
abbrev cX6_setWindow : ByteArray := prog_1_method_5_code
def yX6_setWindow : MethodName := ⟨RX6, "setWindow", "(IIIII)I"⟩
abbrev cX6_set : ByteArray := prog_1_method_6_code
def yX6_set : MethodName := ⟨RX6, "set", "(II)I"⟩
abbrev cX6_setKind : ByteArray := prog_1_method_7_code
def yX6_setKind : MethodName := ⟨RX6, "setKind", "(III)I"⟩
abbrev cX6_setWay : ByteArray := prog_1_method_8_code
def yX6_setWay : MethodName := ⟨RX6, "setWay", "(II)I"⟩
abbrev cX6_limit : ByteArray := prog_1_method_9_code
def yX6_limit : MethodName := ⟨RX6, "limit", "(II)I"⟩
abbrev cX6_value : ByteArray := prog_1_method_10_code
def yX6_value : MethodName := ⟨RX6, "value", "(I)I"⟩
abbrev cX6_sign : ByteArray := prog_1_method_11_code
def yX6_sign : MethodName := ⟨RX6, "sign", "(II)I"⟩
abbrev cX6_kind : ByteArray := prog_1_method_12_code
def yX6_kind : MethodName := ⟨RX6, "kind", "(II)I"⟩
abbrev cX6_lines : ByteArray := prog_1_method_13_code
def yX6_lines : MethodName := ⟨RX6, "lines", "()I"⟩
abbrev cX6_line : ByteArray := prog_1_method_14_code
def yX6_line : MethodName := ⟨RX6, "line", "(II)I"⟩
abbrev cX6_box : ByteArray := prog_1_method_15_code
def yX6_box : MethodName := ⟨RX6, "box", "(I)I"⟩
abbrev cX6_rounds : ByteArray := prog_1_method_16_code
def yX6_rounds : MethodName := ⟨RX6, "rounds", "(I)I"⟩
abbrev cX6_firstLines : ByteArray := prog_1_method_17_code
def yX6_firstLines : MethodName := ⟨RX6, "firstLines", "()I"⟩
abbrev cX6_explained : ByteArray := prog_1_method_18_code
def yX6_explained : MethodName := ⟨RX6, "explained", "()D"⟩
abbrev cX6_saveState : ByteArray := prog_1_method_31_code
def yX6_saveState : MethodName := ⟨RX6, "saveState", "()V"⟩
abbrev cX6_numberOf : ByteArray := prog_1_method_32_code
def yX6_numberOf : MethodName := ⟨RX6, "numberOf", "(I)I"⟩
abbrev cX6_signFact : ByteArray := prog_1_method_33_code
def yX6_signFact : MethodName := ⟨RX6, "signFact", "(II)I"⟩
abbrev cX6_kindFact : ByteArray := prog_1_method_34_code
def yX6_kindFact : MethodName := ⟨RX6, "kindFact", "(II)I"⟩
abbrev cX6_roundFact : ByteArray := prog_1_method_35_code
def yX6_roundFact : MethodName := ⟨RX6, "roundFact", "(I)I"⟩
abbrev cX6_demandSign : ByteArray := prog_1_method_36_code
def yX6_demandSign : MethodName := ⟨RX6, "demandSign", "(I)V"⟩
abbrev cX6_demandKind : ByteArray := prog_1_method_37_code
def yX6_demandKind : MethodName := ⟨RX6, "demandKind", "(I)V"⟩
abbrev cX6_demandBelow : ByteArray := prog_1_method_38_code
def yX6_demandBelow : MethodName := ⟨RX6, "demandBelow", "(II)V"⟩
abbrev cX6_demandSpan : ByteArray := prog_1_method_39_code
def yX6_demandSpan : MethodName := ⟨RX6, "demandSpan", "(I)V"⟩
def RX7 : String := "SightLegendModel"
def TX7 : u_T := fun k => match k with
  | _ => ("", "", "", false)
def tyX7 : Nat → FieldType := fun k => match k with
  | _ => .int
abbrev wsX70 : List Cond := u_ws RX7 TX7 0
theorem nmX7 : ∀ a, a < 0 → ∀ b, b < 0 → a ≠ b → (TX7 a).2.1 ≠ (TX7 b).2.1 := by decide +kernel
theorem tyX7_ok : ∀ k, k < 0 → parseFieldDescriptor (TX7 k).2.2.1 = some (tyX7 k) := by decide +kernel
def RJ9 : String := "java/lang/Math"
def TJ9 : u_T := fun k => match k with
  | _ => ("", "", "", false)
def tyJ9 : Nat → FieldType := fun k => match k with
  | _ => .int
abbrev wsJ90 : List Cond := u_ws RJ9 TJ9 0
theorem nmJ9 : ∀ a, a < 0 → ∀ b, b < 0 → a ≠ b → (TJ9 a).2.1 ≠ (TJ9 b).2.1 := by decide +kernel
theorem tyJ9_ok : ∀ k, k < 0 → parseFieldDescriptor (TJ9 k).2.2.1 = some (tyJ9 k) := by decide +kernel
abbrev cJ9_max_7cf53 : ByteArray := prog_14_method_65_code
def yJ9_max_7cf53 : MethodName := ⟨RJ9, "max", "(II)I"⟩
abbrev cJ9_min_7cf53 : ByteArray := prog_14_method_69_code
def yJ9_min_7cf53 : MethodName := ⟨RJ9, "min", "(II)I"⟩
def RJ0 : String := "java/lang/String"
def TJ0 : u_T := fun k => match k with
  | _ => ("", "", "", false)
def tyJ0 : Nat → FieldType := fun k => match k with
  | _ => .int
abbrev wsJ00 : List Cond := u_ws RJ0 TJ0 0
theorem nmJ0 : ∀ a, a < 0 → ∀ b, b < 0 → a ≠ b → (TJ0 a).2.1 ≠ (TJ0 b).2.1 := by decide +kernel
theorem tyJ0_ok : ∀ k, k < 0 → parseFieldDescriptor (TJ0 k).2.2.1 = some (tyJ0 k) := by decide +kernel
def RJ10 : String := "java/lang/System"
def TJ10 : u_T := fun k => match k with
  | _ => ("", "", "", false)
def tyJ10 : Nat → FieldType := fun k => match k with
  | _ => .int
abbrev wsJ100 : List Cond := u_ws RJ10 TJ10 0
theorem nmJ10 : ∀ a, a < 0 → ∀ b, b < 0 → a ≠ b → (TJ10 a).2.1 ≠ (TJ10 b).2.1 := by decide +kernel
theorem tyJ10_ok : ∀ k, k < 0 → parseFieldDescriptor (TJ10 k).2.2.1 = some (tyJ10 k) := by decide +kernel
def RL : String := "SightLegendLaw"
abbrev cL_cell : ByteArray := method_2_code
def yL_cell : MethodName := ⟨RL, "cell", "([II)I"⟩
abbrev cL_low : ByteArray := method_3_code
def yL_low : MethodName := ⟨RL, "low", "(II)I"⟩
abbrev cL_classOf : ByteArray := method_4_code
def yL_classOf : MethodName := ⟨RL, "classOf", "([I[II)I"⟩
abbrev cL_within : ByteArray := method_5_code
def yL_within : MethodName := ⟨RL, "within", "([I[II)Z"⟩
abbrev cL_shown : ByteArray := method_6_code
def yL_shown : MethodName := ⟨RL, "shown", "([I[I)I"⟩
abbrev cL_bits : ByteArray := method_7_code
def yL_bits : MethodName := ⟨RL, "bits", "(I)I"⟩
abbrev cL_key : ByteArray := method_8_code
def yL_key : MethodName := ⟨RL, "key", "([II)I"⟩
abbrev cL_block : ByteArray := method_9_code
def yL_block : MethodName := ⟨RL, "block", "([III)I"⟩
abbrev cL_member : ByteArray := method_10_code
def yL_member : MethodName := ⟨RL, "member", "([III)I"⟩
abbrev cL_code : ByteArray := method_11_code
def yL_code : MethodName := ⟨RL, "code", "(IIIII)I"⟩
abbrev cL_signs : ByteArray := method_12_code
def yL_signs : MethodName := ⟨RL, "signs", "([I[IIIII)I"⟩
abbrev cL_linesOf : ByteArray := method_13_code
def yL_linesOf : MethodName := ⟨RL, "linesOf", "([I[I[I[III)I"⟩
abbrev cL_lists : ByteArray := method_14_code
def yL_lists : MethodName := ⟨RL, "lists", "([I[I[I[I)V"⟩
abbrev cL_covered : ByteArray := method_15_code
def yL_covered : MethodName := ⟨RL, "covered", "([I[I[I)I"⟩
abbrev cL_place : ByteArray := method_16_code
def yL_place : MethodName := ⟨RL, "place", "([I[II)I"⟩
abbrev cL_box : ByteArray := method_17_code
def yL_box : MethodName := ⟨RL, "box", "([I[I[I)V"⟩
abbrev cL_legend : ByteArray := method_18_code
def yL_legend : MethodName := ⟨RL, "legend", "([I[I[I[I)V"⟩
abbrev cL_closes : ByteArray := method_19_code
def yL_closes : MethodName := ⟨RL, "closes", "([II)V"⟩
abbrev cL_acts : ByteArray := method_20_code
def yL_acts : MethodName := ⟨RL, "acts", "(LSightLegend;[I[I[II)Z"⟩
abbrev cL_begins : ByteArray := method_21_code
def yL_begins : MethodName := ⟨RL, "begins", "([I[I)V"⟩
abbrev cL_adds : ByteArray := method_22_code
def yL_adds : MethodName := ⟨RL, "adds", "(LSightLegend;IIIII)I"⟩
abbrev cL_drops : ByteArray := method_23_code
def yL_drops : MethodName := ⟨RL, "drops", "(LSightLegend;I)I"⟩
abbrev cL_moves : ByteArray := method_24_code
def yL_moves : MethodName := ⟨RL, "moves", "(LSightLegend;III)I"⟩
abbrev cL_windows : ByteArray := method_25_code
def yL_windows : MethodName := ⟨RL, "windows", "(LSightLegend;IIIII)I"⟩
abbrev cL_sets : ByteArray := method_26_code
def yL_sets : MethodName := ⟨RL, "sets", "(LSightLegend;II)I"⟩
abbrev cL_kinds : ByteArray := method_27_code
def yL_kinds : MethodName := ⟨RL, "kinds", "(LSightLegend;III)I"⟩
abbrev cL_ways : ByteArray := method_28_code
def yL_ways : MethodName := ⟨RL, "ways", "(LSightLegend;II)I"⟩
abbrev cL_limits : ByteArray := method_29_code
def yL_limits : MethodName := ⟨RL, "limits", "(LSightLegend;II)I"⟩
abbrev cL_valueOf : ByteArray := method_30_code
def yL_valueOf : MethodName := ⟨RL, "valueOf", "(LSightLegend;I)I"⟩
abbrev cL_signOf : ByteArray := method_31_code
def yL_signOf : MethodName := ⟨RL, "signOf", "(LSightLegend;II)I"⟩
abbrev cL_kindOf : ByteArray := method_32_code
def yL_kindOf : MethodName := ⟨RL, "kindOf", "(LSightLegend;II)I"⟩
abbrev cL_lineOf : ByteArray := method_33_code
def yL_lineOf : MethodName := ⟨RL, "lineOf", "(LSightLegend;II)I"⟩
abbrev cL_boxOf : ByteArray := method_34_code
def yL_boxOf : MethodName := ⟨RL, "boxOf", "(LSightLegend;I)I"⟩
abbrev cL_roundsOf : ByteArray := method_35_code
def yL_roundsOf : MethodName := ⟨RL, "roundsOf", "(LSightLegend;I)I"⟩
abbrev cL_stands : ByteArray := method_36_code
def yL_stands : MethodName := ⟨RL, "stands", "([I[I[III)Z"⟩
abbrev cL_isSo : ByteArray := method_37_code
def yL_isSo : MethodName := ⟨RL, "isSo", "(LSightLegend;[I[I[I[I)Z"⟩
abbrev cL_law : ByteArray := code
def yL_law : MethodName := ⟨RL, "law", "([I)Z"⟩
def wsL_law0_r1 : List Cond := [Cond.classLink RL 106 RX6, Cond.instantiable RX6 8, Cond.initialized RX6, Cond.arrayClass .int, Cond.constant RL 8 (2147483647), Cond.methodLink RL 191 yX6_init, Cond.instanceMethod yX6_init, Cond.code yX6_init cX6_init 2 none, Cond.methodLink RX6 1 objectInit, Cond.instanceMethod objectInit, Cond.code objectInit ⟨#[0xb1]⟩ 1 none, Cond.classLink RX6 7 RX3, Cond.instantiable RX3 13, Cond.initialized RX3, Cond.fieldLink RX6 10 "SightLegend" "map" "LSightLegend$MapState;", Cond.classLink RX6 16 RX1, Cond.instantiable RX1 12, Cond.initialized RX1, Cond.fieldLink RX6 19 "SightLegend" "legend" "LSightLegend$Legend;", Cond.fieldLink RX6 23 "SightLegend" "otherMap" "LSightLegend$MapState;", Cond.fieldLink RX6 26 "SightLegend" "otherLegend" "LSightLegend$Legend;", Cond.classLink RX6 29 RX5, Cond.instantiable RX5 5, Cond.initialized RX5]
def wsL_law0_r2 : List Cond := [Cond.fieldLink RX6 32 "SightLegend" "text" "LSightLegend$SignText;", Cond.fieldLink RX6 36 "SightLegend" "saved" "[LSightLegend$MapState;", Cond.methodLink RX6 9 yX3_init, Cond.instanceMethod yX3_init, Cond.code yX3_init cX3_init 2 none, Cond.methodLink RX3 3 objectInit, Cond.fieldLink RX3 9 "SightLegend$MapState" "signKind" "[I", Cond.fieldLink RX3 15 "SightLegend$MapState" "signColumn" "[I", Cond.fieldLink RX3 18 "SightLegend$MapState" "signRow" "[I", Cond.fieldLink RX3 21 "SightLegend$MapState" "signValue" "[I", Cond.fieldLink RX3 24 "SightLegend$MapState" "signLevel" "[I", Cond.fieldLink RX3 27 "SightLegend$MapState" "rank" "[I", Cond.fieldLink RX3 30 "SightLegend$MapState" "group" "[I", Cond.fieldLink RX3 33 "SightLegend$MapState" "limitCount" "[I", Cond.fieldLink RX3 36 "SightLegend$MapState" "limits" "[I", Cond.fieldLink RX3 39 "SightLegend$MapState" "way" "[I", Cond.fieldLink RX3 42 "SightLegend$MapState" "window" "[I", Cond.fieldLink RX3 45 "SightLegend$MapState" "settings" "[I", Cond.instanceMethod yX1_init, Cond.code yX1_init cX1_init 1 none, Cond.methodLink RX1 3 objectInit, Cond.arrayClass .boolean, Cond.fieldLink RX1 9 "SightLegend$Legend" "shown" "[Z", Cond.fieldLink RX1 15 "SightLegend$Legend" "inSight" "[Z"]
def wsL_law0_r3 : List Cond := [Cond.classLink RX1 18 RX4, Cond.instantiable RX4 6, Cond.initialized RX4, Cond.fieldLink RX1 21 "SightLegend$Legend" "ranges" "LSightLegend$Ranges;", Cond.classLink RX1 25 RX2, Cond.instantiable RX2 14, Cond.initialized RX2, Cond.fieldLink RX1 28 "SightLegend$Legend" "now" "LSightLegend$Lines;", Cond.fieldLink RX1 32 "SightLegend$Legend" "before" "LSightLegend$Lines;", Cond.classLink RX1 35 RX0, Cond.instantiable RX0 6, Cond.initialized RX0, Cond.fieldLink RX1 38 "SightLegend$Legend" "box" "LSightLegend$Box;", Cond.instanceMethod yX4_init, Cond.code yX4_init cX4_init 1 none, Cond.methodLink RX4 3 objectInit, Cond.fieldLink RX4 9 "SightLegend$Ranges" "total" "[I", Cond.fieldLink RX4 15 "SightLegend$Ranges" "classSigns" "[I", Cond.fieldLink RX4 18 "SightLegend$Ranges" "size" "[I", Cond.fieldLink RX4 21 "SightLegend$Ranges" "first" "[I", Cond.fieldLink RX4 24 "SightLegend$Ranges" "last" "[I", Cond.fieldLink RX4 27 "SightLegend$Ranges" "signs" "[I", Cond.instanceMethod yX2_init, Cond.code yX2_init cX2_init 1 none]
def wsL_law0_r4 : List Cond := [Cond.methodLink RX2 3 objectInit, Cond.fieldLink RX2 9 "SightLegend$Lines" "type" "[I", Cond.fieldLink RX2 15 "SightLegend$Lines" "kind" "[I", Cond.fieldLink RX2 18 "SightLegend$Lines" "group" "[I", Cond.fieldLink RX2 21 "SightLegend$Lines" "first" "[I", Cond.fieldLink RX2 24 "SightLegend$Lines" "last" "[I", Cond.fieldLink RX2 27 "SightLegend$Lines" "signs" "[I", Cond.fieldLink RX2 30 "SightLegend$Lines" "column" "[I", Cond.fieldLink RX2 33 "SightLegend$Lines" "place" "[I", Cond.fieldLink RX2 36 "SightLegend$Lines" "order" "[I", Cond.fieldLink RX2 39 "SightLegend$Lines" "groupDone" "[Z", Cond.instanceMethod yX0_init, Cond.code yX0_init cX0_init 1 none, Cond.methodLink RX0 3 objectInit, Cond.instanceMethod yX5_init, Cond.code yX5_init cX5_init 1 none, Cond.methodLink RX5 3 objectInit, Cond.fieldLink RX5 9 "SightLegend$SignText" "bytes" "[I", Cond.classLink RX5 15 RX3, Cond.fieldLink RX5 18 "SightLegend$SignText" "signs" "LSightLegend$MapState;", Cond.methodLink RX5 17 yX3_init, Cond.methodLink RL 192 yL_begins, Cond.static yL_begins, Cond.initialized RL]
def wsL_law0_r5 : List Cond := [Cond.code yL_begins cL_begins 3 none, Cond.methodLink RL 196 yL_isSo, Cond.static yL_isSo, Cond.code yL_isSo cL_isSo 10 (some .boolean), Cond.constant RL 93 (-100001), Cond.methodLink RL 155 yL_legend, Cond.static yL_legend, Cond.code yL_legend cL_legend 7 none, Cond.methodLink RL 46 yL_shown, Cond.static yL_shown, Cond.code yL_shown cL_shown 4 (some .int), Cond.methodLink RL 9 yL_within, Cond.static yL_within, Cond.code yL_within cL_within 3 (some .boolean), Cond.methodLink RL 53 yL_covered, Cond.static yL_covered, Cond.code yL_covered cL_covered 7 (some .int), Cond.methodLink RL 57 yL_lists, Cond.static yL_lists, Cond.code yL_lists cL_lists 13 none, Cond.methodLink RL 31 yL_bits, Cond.static yL_bits, Cond.code yL_bits cL_bits 3 (some .int), Cond.methodLink RL 35 yL_block]
def wsL_law0_r6 : List Cond := [Cond.static yL_block, Cond.code yL_block cL_block 6 (some .int), Cond.methodLink RL 15 yL_key, Cond.static yL_key, Cond.code yL_key cL_key 2 (some .int), Cond.methodLink RL 39 yL_member, Cond.static yL_member, Cond.code yL_member cL_member 5 (some .int), Cond.methodLink RL 27 yL_code, Cond.static yL_code, Cond.code yL_code cL_code 5 (some .int), Cond.methodLink RL 42 yL_linesOf, Cond.static yL_linesOf, Cond.code yL_linesOf cL_linesOf 10 (some .int), Cond.methodLink RL 23 yL_signs, Cond.static yL_signs, Cond.code yL_signs cL_signs 8 (some .int), Cond.methodLink RL 19 yL_classOf, Cond.static yL_classOf, Cond.code yL_classOf cL_classOf 5 (some .int), Cond.methodLink RL 61 yL_box, Cond.static yL_box, Cond.code yL_box cL_box 8 none, Cond.methodLink RL 50 yL_place]
def wsL_law0_r7 : List Cond := [Cond.static yL_place, Cond.code yL_place cL_place 10 (some .int), Cond.methodLink RL 158 yX6_lines, Cond.instanceMethod yX6_lines, Cond.selects RX6 yX6_lines yX6_lines, Cond.code yX6_lines cX6_lines 1 (some .int), Cond.fieldLink RX6 146 "SightLegend$Legend" "now" "LSightLegend$Lines;", Cond.fieldLink RX6 150 "SightLegend$Lines" "size" "I", Cond.methodLink RX6 131 yX1_make, Cond.instanceMethod yX1_make, Cond.selects RX1 yX1_make yX1_make, Cond.code yX1_make cX1_make 3 none, Cond.fieldLink RX1 42 "SightLegend$Legend" "stands" "Z", Cond.fieldLink RX1 50 "SightLegend$Legend" "stays" "Z", Cond.fieldLink RX1 60 "SightLegend$Legend" "explainedCount" "I", Cond.methodLink RX1 46 yX1_seeAllShown, Cond.instanceMethod yX1_seeAllShown, Cond.selects RX1 yX1_seeAllShown yX1_seeAllShown, Cond.code yX1_seeAllShown cX1_seeAllShown 3 none, Cond.fieldLink RX1 64 "SightLegend$Legend" "shownCount" "I", Cond.fieldLink RX1 67 "SightLegend$MapState" "signCount" "I", Cond.methodLink RX1 72 yX3_isShown, Cond.instanceMethod yX3_isShown, Cond.selects RX3 yX3_isShown yX3_isShown]
def wsL_law0_r8 : List Cond := [Cond.code yX3_isShown cX3_isShown 2 (some .boolean), Cond.methodLink RX3 62 yX3_isInWindow, Cond.instanceMethod yX3_isInWindow, Cond.selects RX3 yX3_isInWindow yX3_isInWindow, Cond.code yX3_isInWindow cX3_isInWindow 4 (some .boolean), Cond.methodLink RX1 53 yX1_hideCovered, Cond.instanceMethod yX1_hideCovered, Cond.selects RX1 yX1_hideCovered yX1_hideCovered, Cond.code yX1_hideCovered cX1_hideCovered 3 none, Cond.methodLink RX1 76 yX0_covers, Cond.instanceMethod yX0_covers, Cond.selects RX0 yX0_covers yX0_covers, Cond.code yX0_covers cX0_covers 5 (some .boolean), Cond.fieldLink RX0 74 "SightLegend$MapState" "signColumn" "[I", Cond.fieldLink RX0 61 "SightLegend$Box" "left" "I", Cond.fieldLink RX0 77 "SightLegend$MapState" "signRow" "[I", Cond.fieldLink RX0 64 "SightLegend$Box" "top" "I", Cond.fieldLink RX0 58 "SightLegend$Box" "corner" "I", Cond.fieldLink RX0 38 "SightLegend$Box" "width" "I", Cond.fieldLink RX0 44 "SightLegend$Box" "height" "I", Cond.methodLink RX1 56 yX1_makeRound, Cond.instanceMethod yX1_makeRound, Cond.selects RX1 yX1_makeRound yX1_makeRound, Cond.code yX1_makeRound cX1_makeRound 3 none]
def wsL_law0_r9 : List Cond := [Cond.fieldLink RX1 92 "SightLegend$MapState" "settings" "[I", Cond.fieldLink RX1 104 "SightLegend$Legend" "roundCount" "I", Cond.fieldLink RX1 107 "SightLegend$Lines" "size" "I", Cond.fieldLink RX1 110 "SightLegend$Legend" "firstLineCount" "I", Cond.methodLink RX1 80 yX2_copyFrom, Cond.instanceMethod yX2_copyFrom, Cond.selects RX2 yX2_copyFrom yX2_copyFrom, Cond.code yX2_copyFrom cX2_copyFrom 3 none, Cond.fieldLink RX2 43 "SightLegend$Lines" "size" "I", Cond.methodLink RX1 84 yX4_build, Cond.instanceMethod yX4_build, Cond.selects RX4 yX4_build yX4_build, Cond.code yX4_build cX4_build 6 none, Cond.fieldLink RX4 38 "SightLegend$MapState" "settings" "[I", Cond.methodLink RX4 43 Lib.Math.max.name, Cond.static Lib.Math.max.name, Cond.initialized "java/lang/Math", Cond.code Lib.Math.max.name Lib.Math.max.code 2 (some .int), Cond.methodLink RX4 30 yX4_countSigns, Cond.instanceMethod yX4_countSigns, Cond.selects RX4 yX4_countSigns yX4_countSigns, Cond.code yX4_countSigns cX4_countSigns 5 none, Cond.fieldLink RX4 52 "SightLegend$MapState" "signCount" "I", Cond.fieldLink RX4 56 "SightLegend$MapState" "signKind" "[I"]
def wsL_law0_r10 : List Cond := [Cond.methodLink RX4 59 yX3_classOf, Cond.instanceMethod yX3_classOf, Cond.selects RX3 yX3_classOf yX3_classOf, Cond.code yX3_classOf cX3_classOf 5 (some .int), Cond.methodLink RX4 34 yX4_takeClasses, Cond.instanceMethod yX4_takeClasses, Cond.selects RX4 yX4_takeClasses yX4_takeClasses, Cond.code yX4_takeClasses cX4_takeClasses 5 none, Cond.methodLink RX4 49 yX4_joinFewest, Cond.instanceMethod yX4_joinFewest, Cond.selects RX4 yX4_joinFewest yX4_joinFewest, Cond.code yX4_joinFewest cX4_joinFewest 6 none, Cond.methodLink RX1 88 yX2_compose, Cond.instanceMethod yX2_compose, Cond.selects RX2 yX2_compose yX2_compose, Cond.code yX2_compose cX2_compose 6 none, Cond.fieldLink RX2 51 "SightLegend$Lines" "orderSize" "I", Cond.fieldLink RX2 54 "SightLegend$MapState" "group" "[I", Cond.methodLink RX2 47 yX2_orderKinds, Cond.instanceMethod yX2_orderKinds, Cond.selects RX2 yX2_orderKinds yX2_orderKinds, Cond.code yX2_orderKinds cX2_orderKinds 5 none, Cond.fieldLink RX2 65 "SightLegend$Ranges" "size" "[I", Cond.fieldLink RX2 69 "SightLegend$MapState" "rank" "[I"]
def wsL_law0_r11 : List Cond := [Cond.methodLink RX2 57 yX2_addKindLines, Cond.instanceMethod yX2_addKindLines, Cond.selects RX2 yX2_addKindLines yX2_addKindLines, Cond.code yX2_addKindLines cX2_addKindLines 6 none, Cond.fieldLink RX2 82 "SightLegend$Ranges" "first" "[I", Cond.fieldLink RX2 83 "SightLegend$Ranges" "last" "[I", Cond.fieldLink RX2 84 "SightLegend$Ranges" "signs" "[I", Cond.methodLink RX2 78 yX2_add, Cond.instanceMethod yX2_add, Cond.selects RX2 yX2_add yX2_add, Cond.code yX2_add cX2_add 7 none, Cond.methodLink RX2 61 yX2_addGroup, Cond.instanceMethod yX2_addGroup, Cond.selects RX2 yX2_addGroup yX2_addGroup, Cond.code yX2_addGroup cX2_addGroup 8 none, Cond.fieldLink RX2 72 "SightLegend$Ranges" "total" "[I", Cond.fieldLink RX2 75 "SightLegend$MapState" "way" "[I", Cond.methodLink RX1 96 yX2_layOut, Cond.instanceMethod yX2_layOut, Cond.selects RX2 yX2_layOut yX2_layOut, Cond.code yX2_layOut cX2_layOut 7 none, Cond.fieldLink RX2 85 "SightLegend$Lines" "tallest" "I", Cond.methodLink RX2 88 Lib.Math.max.name, Cond.fieldLink RX2 94 "SightLegend$Lines" "usedColumns" "I"]
def wsL_law0_r12 : List Cond := [Cond.methodLink RX1 100 yX0_place, Cond.instanceMethod yX0_place, Cond.selects RX0 yX0_place yX0_place, Cond.code yX0_place cX0_place 8 none, Cond.fieldLink RX0 9 "SightLegend$Lines" "size" "I", Cond.fieldLink RX0 20 "SightLegend$MapState" "settings" "[I", Cond.fieldLink RX0 26 "SightLegend$Lines" "usedColumns" "I", Cond.fieldLink RX0 29 "SightLegend$MapState" "window" "[I", Cond.methodLink RX0 32 Lib.Math.min.name, Cond.static Lib.Math.min.name, Cond.code Lib.Math.min.name Lib.Math.min.code 2 (some .int), Cond.fieldLink RX0 41 "SightLegend$Lines" "tallest" "I", Cond.fieldLink RX0 55 "SightLegend$Box" "covered" "I", Cond.methodLink RX0 15 yX0_vanish, Cond.instanceMethod yX0_vanish, Cond.selects RX0 yX0_vanish yX0_vanish, Cond.code yX0_vanish cX0_vanish 1 none, Cond.methodLink RX0 47 yX0_moveTo, Cond.instanceMethod yX0_moveTo, Cond.selects RX0 yX0_moveTo yX0_moveTo, Cond.code yX0_moveTo cX0_moveTo 5 none, Cond.methodLink RX0 51 yX0_countCovered, Cond.instanceMethod yX0_countCovered, Cond.selects RX0 yX0_countCovered yX0_countCovered]
def wsL_law0_r13 : List Cond := [Cond.code yX0_countCovered cX0_countCovered 5 (some .int), Cond.fieldLink RX0 67 "SightLegend$MapState" "signCount" "I", Cond.methodLink RX0 70 yX0_covers, Cond.methodLink RX1 113 yX2_isSameAs, Cond.instanceMethod yX2_isSameAs, Cond.selects RX2 yX2_isSameAs yX2_isSameAs, Cond.code yX2_isSameAs cX2_isSameAs 3 (some .boolean), Cond.methodLink RL 162 yX6_firstLines, Cond.instanceMethod yX6_firstLines, Cond.selects RX6 yX6_firstLines yX6_firstLines, Cond.code yX6_firstLines cX6_firstLines 1 (some .int), Cond.fieldLink RX6 171 "SightLegend$Legend" "firstLineCount" "I", Cond.methodLink RL 165 yL_roundsOf, Cond.static yL_roundsOf, Cond.codeWith yL_roundsOf cL_roundsOf 3 (some .int) [(0, 5, 6, 112)], Cond.classLink RL 112 "java/lang/IllegalArgumentException", Cond.constant RL 104 (-100002), Cond.methodLink RL 152 yX6_rounds, Cond.instanceMethod yX6_rounds, Cond.selects RX6 yX6_rounds yX6_rounds, Cond.code yX6_rounds cX6_rounds 2 (some .int), Cond.methodLink RX6 44 yX6_demandBelow, Cond.static yX6_demandBelow, Cond.code yX6_demandBelow cX6_demandBelow 2 none]
def wsL_law0_r14 : List Cond := [Cond.classLink RX6 92 "java/lang/IllegalArgumentException", Cond.initialized "java/lang/IllegalArgumentException", Cond.methodLink RX6 168 yX6_roundFact, Cond.instanceMethod yX6_roundFact, Cond.selects RX6 yX6_roundFact yX6_roundFact, Cond.code yX6_roundFact cX6_roundFact 2 (some .int), Cond.fieldLink RX6 276 "SightLegend$Legend" "roundCount" "I", Cond.fieldLink RX6 279 "SightLegend$Legend" "stays" "Z", Cond.methodLink RX6 282 yX1_countCoveredInSight, Cond.instanceMethod yX1_countCoveredInSight, Cond.selects RX1 yX1_countCoveredInSight yX1_countCoveredInSight, Cond.code yX1_countCoveredInSight cX1_countCoveredInSight 2 (some .int), Cond.methodLink RX1 117 yX0_countCovered, Cond.methodLink RL 168 yL_valueOf, Cond.static yL_valueOf, Cond.codeWith yL_valueOf cL_valueOf 3 (some .int) [(0, 5, 6, 112)], Cond.methodLink RL 138 yX6_value, Cond.instanceMethod yX6_value, Cond.selects RX6 yX6_value yX6_value, Cond.code yX6_value cX6_value 2 (some .int), Cond.methodLink RX6 135 yX6_numberOf, Cond.instanceMethod yX6_numberOf, Cond.selects RX6 yX6_numberOf yX6_numberOf, Cond.code yX6_numberOf cX6_numberOf 2 (some .int)]
def wsL_law0_r15 : List Cond := [Cond.fieldLink RX6 97 "SightLegend$MapState" "settings" "[I", Cond.fieldLink RX6 82 "SightLegend$MapState" "window" "[I", Cond.fieldLink RX6 48 "SightLegend$MapState" "signCount" "I", Cond.fieldLink RX6 174 "SightLegend$Legend" "shownCount" "I", Cond.fieldLink RX6 177 "SightLegend$Legend" "explainedCount" "I", Cond.methodLink RL 171 yL_boxOf, Cond.static yL_boxOf, Cond.codeWith yL_boxOf cL_boxOf 3 (some .int) [(0, 5, 6, 112)], Cond.methodLink RL 150 yX6_box, Cond.instanceMethod yX6_box, Cond.selects RX6 yX6_box yX6_box, Cond.code yX6_box cX6_box 2 (some .int), Cond.fieldLink RX6 160 "SightLegend$Legend" "box" "LSightLegend$Box;", Cond.methodLink RX6 164 yX0_fact, Cond.instanceMethod yX0_fact, Cond.selects RX0 yX0_fact yX0_fact, Cond.code yX0_fact cX0_fact 2 (some .int), Cond.methodLink RL 174 yX6_explained, Cond.instanceMethod yX6_explained, Cond.selects RX6 yX6_explained yX6_explained, Cond.code yX6_explained cX6_explained 2 (some .double), Cond.methodLink RL 178 yL_stands, Cond.static yL_stands, Cond.code yL_stands cL_stands 10 (some .boolean)]
def wsL_law0_r16 : List Cond := [Cond.methodLink RL 182 yL_lineOf, Cond.static yL_lineOf, Cond.codeWith yL_lineOf cL_lineOf 4 (some .int) [(0, 6, 7, 110), (0, 6, 11, 112)], Cond.classLink RL 110 "java/lang/IndexOutOfBoundsException", Cond.methodLink RL 147 yX6_line, Cond.instanceMethod yX6_line, Cond.selects RX6 yX6_line yX6_line, Cond.code yX6_line cX6_line 3 (some .int), Cond.classLink RX6 106 "java/lang/IndexOutOfBoundsException", Cond.initialized "java/lang/IndexOutOfBoundsException", Cond.methodLink RX6 157 yX2_fact, Cond.instanceMethod yX2_fact, Cond.selects RX2 yX2_fact yX2_fact, Cond.code yX2_fact cX2_fact 3 (some .int), Cond.methodLink RL 185 yL_signOf, Cond.static yL_signOf, Cond.codeWith yL_signOf cL_signOf 4 (some .int) [(0, 6, 7, 110), (0, 6, 11, 112)], Cond.methodLink RL 141 yX6_sign, Cond.instanceMethod yX6_sign, Cond.selects RX6 yX6_sign yX6_sign, Cond.code yX6_sign cX6_sign 3 (some .int), Cond.methodLink RX6 66 yX6_demandSign, Cond.instanceMethod yX6_demandSign, Cond.selects RX6 yX6_demandSign yX6_demandSign]
def wsL_law0_r17 : List Cond := [Cond.code yX6_demandSign cX6_demandSign 2 none, Cond.methodLink RX6 139 yX6_signFact, Cond.instanceMethod yX6_signFact, Cond.selects RX6 yX6_signFact yX6_signFact, Cond.code yX6_signFact cX6_signFact 3 (some .int), Cond.fieldLink RX6 187 "SightLegend$MapState" "signKind" "[I", Cond.fieldLink RX6 72 "SightLegend$MapState" "signColumn" "[I", Cond.fieldLink RX6 76 "SightLegend$MapState" "signRow" "[I", Cond.fieldLink RX6 244 "SightLegend$MapState" "signValue" "[I", Cond.fieldLink RX6 194 "SightLegend$MapState" "signLevel" "[I", Cond.fieldLink RX6 250 "SightLegend$Legend" "shown" "[Z", Cond.fieldLink RX6 254 "SightLegend$Legend" "inSight" "[Z", Cond.methodLink RX6 247 yX3_classOf, Cond.methodLink RX6 257 yX1_lineOf, Cond.instanceMethod yX1_lineOf, Cond.selects RX1 yX1_lineOf yX1_lineOf, Cond.code yX1_lineOf cX1_lineOf 6 (some .int), Cond.fieldLink RX1 121 "SightLegend$MapState" "signKind" "[I", Cond.fieldLink RX1 128 "SightLegend$Lines" "type" "[I", Cond.fieldLink RX1 131 "SightLegend$Lines" "group" "[I", Cond.fieldLink RX1 134 "SightLegend$MapState" "group" "[I", Cond.fieldLink RX1 135 "SightLegend$Lines" "kind" "[I", Cond.fieldLink RX1 138 "SightLegend$Lines" "first" "[I", Cond.fieldLink RX1 141 "SightLegend$Lines" "last" "[I"]
def wsL_law0_r18 : List Cond := [Cond.methodLink RX1 124 yX3_classOf, Cond.methodLink RL 188 yL_kindOf, Cond.static yL_kindOf, Cond.codeWith yL_kindOf cL_kindOf 4 (some .int) [(0, 6, 7, 110), (0, 6, 11, 112)], Cond.methodLink RL 144 yX6_kind, Cond.instanceMethod yX6_kind, Cond.selects RX6 yX6_kind yX6_kind, Cond.code yX6_kind cX6_kind 3 (some .int), Cond.methodLink RX6 40 yX6_demandKind, Cond.static yX6_demandKind, Cond.code yX6_demandKind cX6_demandKind 1 none, Cond.methodLink RX6 143 yX6_kindFact, Cond.instanceMethod yX6_kindFact, Cond.selects RX6 yX6_kindFact yX6_kindFact, Cond.code yX6_kindFact cX6_kindFact 3 (some .int), Cond.fieldLink RX6 100 "SightLegend$MapState" "rank" "[I", Cond.fieldLink RX6 103 "SightLegend$MapState" "group" "[I", Cond.fieldLink RX6 120 "SightLegend$MapState" "limitCount" "[I", Cond.fieldLink RX6 264 "SightLegend$Legend" "ranges" "LSightLegend$Ranges;", Cond.fieldLink RX6 268 "SightLegend$Ranges" "total" "[I", Cond.methodLink RX6 261 yX2_countOfKind, Cond.instanceMethod yX2_countOfKind, Cond.selects RX2 yX2_countOfKind yX2_countOfKind, Cond.code yX2_countOfKind cX2_countOfKind 4 (some .int)]
def wsL_law0_r19 : List Cond := [Cond.methodLink RX6 273 yX3_limitAt, Cond.instanceMethod yX3_limitAt, Cond.selects RX3 yX3_limitAt yX3_limitAt, Cond.code yX3_limitAt cX3_limitAt 3 (some .int), Cond.methodLink RL 200 yL_cell, Cond.static yL_cell, Cond.code yL_cell cL_cell 2 (some .int), Cond.constant RL 7 (40503), Cond.methodLink RL 203 yL_acts, Cond.static yL_acts, Cond.code yL_acts cL_acts 19 (some .boolean), Cond.constant RL 65 (10000000), Cond.constant RL 88 (-100003), Cond.methodLink RL 66 yL_low, Cond.static yL_low, Cond.code yL_low cL_low 2 (some .int), Cond.methodLink RL 70 yL_windows, Cond.static yL_windows, Cond.codeWith yL_windows cL_windows 7 (some .int) [(0, 11, 12, 112)], Cond.methodLink RL 123 yX6_setWindow, Cond.instanceMethod yX6_setWindow, Cond.selects RX6 yX6_setWindow yX6_setWindow, Cond.code yX6_setWindow cX6_setWindow 6 (some .int), Cond.methodLink RX6 79 yX6_demandSpan]
def wsL_law0_r20 : List Cond := [Cond.static yX6_demandSpan, Cond.code yX6_demandSpan cX6_demandSpan 1 none, Cond.methodLink RX6 59 yX6_saveState, Cond.instanceMethod yX6_saveState, Cond.selects RX6 yX6_saveState yX6_saveState, Cond.code yX6_saveState cX6_saveState 2 none, Cond.fieldLink RX6 222 "SightLegend" "savedCount" "I", Cond.fieldLink RX6 227 "SightLegend" "oldestSaved" "I", Cond.fieldLink RX6 183 "SightLegend$Legend" "stands" "Z", Cond.methodLink RX6 180 yX3_copyFrom, Cond.instanceMethod yX3_copyFrom, Cond.selects RX3 yX3_copyFrom yX3_copyFrom, Cond.code yX3_copyFrom cX3_copyFrom 2 none, Cond.methodLink RX3 52 arraycopyName, Cond.native arraycopyName, Cond.static arraycopyName, Cond.initialized "java/lang/System", Cond.methodLink RX3 48 yX3_takeSigns, Cond.instanceMethod yX3_takeSigns, Cond.selects RX3 yX3_takeSigns yX3_takeSigns, Cond.code yX3_takeSigns cX3_takeSigns 2 none, Cond.fieldLink RX3 58 "SightLegend$MapState" "signCount" "I", Cond.methodLink RX6 85 yX3_countShown, Cond.instanceMethod yX3_countShown]
def wsL_law0_r21 : List Cond := [Cond.selects RX3 yX3_countShown yX3_countShown, Cond.code yX3_countShown cX3_countShown 3 (some .int), Cond.methodLink RX3 66 yX3_isShown, Cond.methodLink RL 74 yL_sets, Cond.static yL_sets, Cond.codeWith yL_sets cL_sets 4 (some .int) [(0, 6, 7, 112)], Cond.methodLink RL 126 yX6_set, Cond.instanceMethod yX6_set, Cond.selects RX6 yX6_set yX6_set, Cond.code yX6_set cX6_set 4 (some .int), Cond.fieldLink RX6 89 "SightLegend" "HIGHEST_SETTING" "[I", Cond.methodLink RL 78 yL_kinds, Cond.static yL_kinds, Cond.codeWith yL_kinds cL_kinds 5 (some .int) [(0, 7, 8, 110), (0, 7, 13, 112)], Cond.methodLink RL 129 yX6_setKind, Cond.instanceMethod yX6_setKind, Cond.selects RX6 yX6_setKind yX6_setKind, Cond.code yX6_setKind cX6_setKind 5 (some .int), Cond.methodLink RL 82 yL_ways, Cond.static yL_ways, Cond.codeWith yL_ways cL_ways 4 (some .int) [(0, 6, 7, 110), (0, 6, 11, 112)], Cond.methodLink RL 132 yX6_setWay, Cond.instanceMethod yX6_setWay, Cond.selects RX6 yX6_setWay yX6_setWay]
def wsL_law0_r22 : List Cond := [Cond.code yX6_setWay cX6_setWay 4 (some .int), Cond.fieldLink RX6 111 "SightLegend$MapState" "way" "[I", Cond.methodLink RL 85 yL_limits, Cond.static yL_limits, Cond.codeWith yL_limits cL_limits 4 (some .int) [(0, 6, 7, 110), (0, 6, 11, 112), (0, 6, 15, 114)], Cond.classLink RL 114 "java/lang/IllegalStateException", Cond.methodLink RL 135 yX6_limit, Cond.instanceMethod yX6_limit, Cond.selects RX6 yX6_limit yX6_limit, Cond.code yX6_limit cX6_limit 4 (some .int), Cond.classLink RX6 52 "java/lang/IllegalStateException", Cond.initialized "java/lang/IllegalStateException", Cond.methodLink RX6 116 yX3_hasLimit, Cond.instanceMethod yX3_hasLimit, Cond.selects RX3 yX3_hasLimit yX3_hasLimit, Cond.code yX3_hasLimit cX3_hasLimit 4 (some .boolean), Cond.methodLink RX6 125 yX3_dropLimit, Cond.instanceMethod yX3_dropLimit, Cond.selects RX3 yX3_dropLimit yX3_dropLimit, Cond.code yX3_dropLimit cX3_dropLimit 7 none, Cond.methodLink RX6 128 yX3_putLimit, Cond.instanceMethod yX3_putLimit, Cond.selects RX3 yX3_putLimit yX3_putLimit, Cond.code yX3_putLimit cX3_putLimit 5 none]
def wsL_law0_r23 : List Cond := [Cond.methodLink RL 89 yL_drops, Cond.static yL_drops, Cond.codeWith yL_drops cL_drops 3 (some .int) [(0, 5, 6, 110)], Cond.methodLink RL 116 yX6_removeSign, Cond.instanceMethod yX6_removeSign, Cond.selects RX6 yX6_removeSign yX6_removeSign, Cond.code yX6_removeSign cX6_removeSign 2 (some .int), Cond.methodLink RX6 69 yX3_dropSign, Cond.instanceMethod yX3_dropSign, Cond.selects RX3 yX3_dropSign yX3_dropSign, Cond.code yX3_dropSign cX3_dropSign 3 none, Cond.methodLink RL 94 yL_closes, Cond.static yL_closes, Cond.code yL_closes cL_closes 3 none, Cond.methodLink RL 98 yL_moves, Cond.static yL_moves, Cond.codeWith yL_moves cL_moves 5 (some .int) [(0, 7, 8, 110), (0, 7, 13, 112)], Cond.methodLink RL 119 yX6_moveSign, Cond.instanceMethod yX6_moveSign, Cond.selects RX6 yX6_moveSign yX6_moveSign, Cond.code yX6_moveSign cX6_moveSign 5 (some .int), Cond.methodLink RL 101 yL_adds, Cond.static yL_adds, Cond.codeWith yL_adds cL_adds 7 (some .int) [(0, 11, 12, 110), (0, 11, 17, 112), (0, 11, 22, 114)]]
def wsL_law0_r24 : List Cond := [Cond.methodLink RL 105 yX6_addSign, Cond.instanceMethod yX6_addSign, Cond.selects RX6 yX6_addSign yX6_addSign, Cond.code yX6_addSign cX6_addSign 6 (some .int), Cond.methodLink RX6 62 yX3_putSign, Cond.instanceMethod yX3_putSign, Cond.selects RX3 yX3_putSign yX3_putSign, Cond.code yX3_putSign cX3_putSign 6 none]
def wsL_law0 : List Cond := (wsL_law0_r1 ++ (wsL_law0_r2 ++ (wsL_law0_r3 ++ (wsL_law0_r4 ++ (wsL_law0_r5 ++ (wsL_law0_r6 ++ (wsL_law0_r7 ++ (wsL_law0_r8 ++ (wsL_law0_r9 ++ (wsL_law0_r10 ++ (wsL_law0_r11 ++ (wsL_law0_r12 ++ (wsL_law0_r13 ++ (wsL_law0_r14 ++ (wsL_law0_r15 ++ (wsL_law0_r16 ++ (wsL_law0_r17 ++ (wsL_law0_r18 ++ (wsL_law0_r19 ++ (wsL_law0_r20 ++ (wsL_law0_r21 ++ (wsL_law0_r22 ++ (wsL_law0_r23 ++ wsL_law0_r24))))))))))))))))))))))) ++ wsX60 ++ wsX30 ++ wsX10 ++ wsX50 ++ wsX40 ++ wsX20 ++ wsX00 ++ ([] : List Cond)
def wsL_law : List Cond := wsL_law0 ++ (vx_atS RX6 96 "java/lang/IllegalArgumentException" ["java/lang/RuntimeException", "java/lang/Exception"]).filter goodWord ++ (vx_atS RX6 110 "java/lang/IndexOutOfBoundsException" ["java/lang/RuntimeException", "java/lang/Exception"]).filter goodWord ++ (vx_atS RX6 56 "java/lang/IllegalStateException" ["java/lang/RuntimeException", "java/lang/Exception"]).filter goodWord
theorem inlX0 : ∀ w ∈ wsX00, w ∈ wsL_law := fun _ h => List.mem_append_left _ (List.mem_append_left _ (List.mem_append_left _ (List.mem_append_left _ (List.mem_append_right _ h))))
theorem inlX1 : ∀ w ∈ wsX10, w ∈ wsL_law := fun _ h => List.mem_append_left _ (List.mem_append_left _ (List.mem_append_left _ (List.mem_append_left _ (List.mem_append_left _ (List.mem_append_left _ (List.mem_append_left _ (List.mem_append_left _ (List.mem_append_right _ h))))))))
theorem inlX2 : ∀ w ∈ wsX20, w ∈ wsL_law := fun _ h => List.mem_append_left _ (List.mem_append_left _ (List.mem_append_left _ (List.mem_append_left _ (List.mem_append_left _ (List.mem_append_right _ h)))))
theorem inlX3 : ∀ w ∈ wsX30, w ∈ wsL_law := fun _ h => List.mem_append_left _ (List.mem_append_left _ (List.mem_append_left _ (List.mem_append_left _ (List.mem_append_left _ (List.mem_append_left _ (List.mem_append_left _ (List.mem_append_left _ (List.mem_append_left _ (List.mem_append_right _ h)))))))))
theorem inlX4 : ∀ w ∈ wsX40, w ∈ wsL_law := fun _ h => List.mem_append_left _ (List.mem_append_left _ (List.mem_append_left _ (List.mem_append_left _ (List.mem_append_left _ (List.mem_append_left _ (List.mem_append_right _ h))))))
theorem inlX5 : ∀ w ∈ wsX50, w ∈ wsL_law := fun _ h => List.mem_append_left _ (List.mem_append_left _ (List.mem_append_left _ (List.mem_append_left _ (List.mem_append_left _ (List.mem_append_left _ (List.mem_append_left _ (List.mem_append_right _ h)))))))
theorem inlX6 : ∀ w ∈ wsX60, w ∈ wsL_law := fun _ h => List.mem_append_left _ (List.mem_append_left _ (List.mem_append_left _ (List.mem_append_left _ (List.mem_append_left _ (List.mem_append_left _ (List.mem_append_left _ (List.mem_append_left _ (List.mem_append_left _ (List.mem_append_left _ (List.mem_append_right _ h))))))))))
abbrev vwCl : List vw_C := [(RX0, TX0, 6), (RX1, TX1, 12), (RX2, TX2, 14), (RX3, TX3, 13), (RX4, TX4, 6), (RX5, TX5, 5), (RX6, TX6, 8)]
/-! ===== the words of all methods in one list: wsL_law, in pieces ===== -/
theorem GL_1 : ∀ w ∈ wsL_law0_r1, w ∈ wsL_law := fun w h => (List.mem_append_left _ (List.mem_append_left _ (List.mem_append_left _ (List.mem_append_left _ (List.mem_append_left _ (List.mem_append_left _ (List.mem_append_left _ (List.mem_append_left _ (List.mem_append_left _ (List.mem_append_left _ (List.mem_append_left _ (List.mem_append_left _ h))))))))))))
theorem GG_1 : wsL_law0_r1.all goodWord = true := by decide +kernel
theorem GL_2 : ∀ w ∈ wsL_law0_r2, w ∈ wsL_law := fun w h => (List.mem_append_left _ (List.mem_append_left _ (List.mem_append_left _ (List.mem_append_left _ (List.mem_append_left _ (List.mem_append_left _ (List.mem_append_left _ (List.mem_append_left _ (List.mem_append_left _ (List.mem_append_left _ (List.mem_append_left _ (List.mem_append_right _ (List.mem_append_left _ h)))))))))))))
theorem GG_2 : wsL_law0_r2.all goodWord = true := by decide +kernel
theorem GL_3 : ∀ w ∈ wsL_law0_r3, w ∈ wsL_law := fun w h => (List.mem_append_left _ (List.mem_append_left _ (List.mem_append_left _ (List.mem_append_left _ (List.mem_append_left _ (List.mem_append_left _ (List.mem_append_left _ (List.mem_append_left _ (List.mem_append_left _ (List.mem_append_left _ (List.mem_append_left _ (List.mem_append_right _ (List.mem_append_right _ (List.mem_append_left _ h))))))))))))))
theorem GG_3 : wsL_law0_r3.all goodWord = true := by decide +kernel
theorem GL_4 : ∀ w ∈ wsL_law0_r4, w ∈ wsL_law := fun w h => (List.mem_append_left _ (List.mem_append_left _ (List.mem_append_left _ (List.mem_append_left _ (List.mem_append_left _ (List.mem_append_left _ (List.mem_append_left _ (List.mem_append_left _ (List.mem_append_left _ (List.mem_append_left _ (List.mem_append_left _ (List.mem_append_right _ (List.mem_append_right _ (List.mem_append_right _ (List.mem_append_left _ h)))))))))))))))
theorem GG_4 : wsL_law0_r4.all goodWord = true := by decide +kernel
theorem GL_5 : ∀ w ∈ wsL_law0_r5, w ∈ wsL_law := fun w h => (List.mem_append_left _ (List.mem_append_left _ (List.mem_append_left _ (List.mem_append_left _ (List.mem_append_left _ (List.mem_append_left _ (List.mem_append_left _ (List.mem_append_left _ (List.mem_append_left _ (List.mem_append_left _ (List.mem_append_left _ (List.mem_append_right _ (List.mem_append_right _ (List.mem_append_right _ (List.mem_append_right _ (List.mem_append_left _ h))))))))))))))))
theorem GG_5 : wsL_law0_r5.all goodWord = true := by decide +kernel
theorem GL_6 : ∀ w ∈ wsL_law0_r6, w ∈ wsL_law := fun w h => (List.mem_append_left _ (List.mem_append_left _ (List.mem_append_left _ (List.mem_append_left _ (List.mem_append_left _ (List.mem_append_left _ (List.mem_append_left _ (List.mem_append_left _ (List.mem_append_left _ (List.mem_append_left _ (List.mem_append_left _ (List.mem_append_right _ (List.mem_append_right _ (List.mem_append_right _ (List.mem_append_right _ (List.mem_append_right _ (List.mem_append_left _ h)))))))))))))))))
theorem GG_6 : wsL_law0_r6.all goodWord = true := by decide +kernel
theorem GL_7 : ∀ w ∈ wsL_law0_r7, w ∈ wsL_law := fun w h => (List.mem_append_left _ (List.mem_append_left _ (List.mem_append_left _ (List.mem_append_left _ (List.mem_append_left _ (List.mem_append_left _ (List.mem_append_left _ (List.mem_append_left _ (List.mem_append_left _ (List.mem_append_left _ (List.mem_append_left _ (List.mem_append_right _ (List.mem_append_right _ (List.mem_append_right _ (List.mem_append_right _ (List.mem_append_right _ (List.mem_append_right _ (List.mem_append_left _ h))))))))))))))))))
theorem GG_7 : wsL_law0_r7.all goodWord = true := by decide +kernel
theorem GL_8 : ∀ w ∈ wsL_law0_r8, w ∈ wsL_law := fun w h => (List.mem_append_left _ (List.mem_append_left _ (List.mem_append_left _ (List.mem_append_left _ (List.mem_append_left _ (List.mem_append_left _ (List.mem_append_left _ (List.mem_append_left _ (List.mem_append_left _ (List.mem_append_left _ (List.mem_append_left _ (List.mem_append_right _ (List.mem_append_right _ (List.mem_append_right _ (List.mem_append_right _ (List.mem_append_right _ (List.mem_append_right _ (List.mem_append_right _ (List.mem_append_left _ h)))))))))))))))))))
theorem GG_8 : wsL_law0_r8.all goodWord = true := by decide +kernel
theorem GL_9 : ∀ w ∈ wsL_law0_r9, w ∈ wsL_law := fun w h => (List.mem_append_left _ (List.mem_append_left _ (List.mem_append_left _ (List.mem_append_left _ (List.mem_append_left _ (List.mem_append_left _ (List.mem_append_left _ (List.mem_append_left _ (List.mem_append_left _ (List.mem_append_left _ (List.mem_append_left _ (List.mem_append_right _ (List.mem_append_right _ (List.mem_append_right _ (List.mem_append_right _ (List.mem_append_right _ (List.mem_append_right _ (List.mem_append_right _ (List.mem_append_right _ (List.mem_append_left _ h))))))))))))))))))))
theorem GG_9 : wsL_law0_r9.all goodWord = true := by decide +kernel
theorem GL_10 : ∀ w ∈ wsL_law0_r10, w ∈ wsL_law := fun w h => (List.mem_append_left _ (List.mem_append_left _ (List.mem_append_left _ (List.mem_append_left _ (List.mem_append_left _ (List.mem_append_left _ (List.mem_append_left _ (List.mem_append_left _ (List.mem_append_left _ (List.mem_append_left _ (List.mem_append_left _ (List.mem_append_right _ (List.mem_append_right _ (List.mem_append_right _ (List.mem_append_right _ (List.mem_append_right _ (List.mem_append_right _ (List.mem_append_right _ (List.mem_append_right _ (List.mem_append_right _ (List.mem_append_left _ h)))))))))))))))))))))
theorem GG_10 : wsL_law0_r10.all goodWord = true := by decide +kernel
theorem GL_11 : ∀ w ∈ wsL_law0_r11, w ∈ wsL_law := fun w h => (List.mem_append_left _ (List.mem_append_left _ (List.mem_append_left _ (List.mem_append_left _ (List.mem_append_left _ (List.mem_append_left _ (List.mem_append_left _ (List.mem_append_left _ (List.mem_append_left _ (List.mem_append_left _ (List.mem_append_left _ (List.mem_append_right _ (List.mem_append_right _ (List.mem_append_right _ (List.mem_append_right _ (List.mem_append_right _ (List.mem_append_right _ (List.mem_append_right _ (List.mem_append_right _ (List.mem_append_right _ (List.mem_append_right _ (List.mem_append_left _ h))))))))))))))))))))))
theorem GG_11 : wsL_law0_r11.all goodWord = true := by decide +kernel
theorem GL_12 : ∀ w ∈ wsL_law0_r12, w ∈ wsL_law := fun w h => (List.mem_append_left _ (List.mem_append_left _ (List.mem_append_left _ (List.mem_append_left _ (List.mem_append_left _ (List.mem_append_left _ (List.mem_append_left _ (List.mem_append_left _ (List.mem_append_left _ (List.mem_append_left _ (List.mem_append_left _ (List.mem_append_right _ (List.mem_append_right _ (List.mem_append_right _ (List.mem_append_right _ (List.mem_append_right _ (List.mem_append_right _ (List.mem_append_right _ (List.mem_append_right _ (List.mem_append_right _ (List.mem_append_right _ (List.mem_append_right _ (List.mem_append_left _ h)))))))))))))))))))))))
theorem GG_12 : wsL_law0_r12.all goodWord = true := by decide +kernel
theorem GL_13 : ∀ w ∈ wsL_law0_r13, w ∈ wsL_law := fun w h => (List.mem_append_left _ (List.mem_append_left _ (List.mem_append_left _ (List.mem_append_left _ (List.mem_append_left _ (List.mem_append_left _ (List.mem_append_left _ (List.mem_append_left _ (List.mem_append_left _ (List.mem_append_left _ (List.mem_append_left _ (List.mem_append_right _ (List.mem_append_right _ (List.mem_append_right _ (List.mem_append_right _ (List.mem_append_right _ (List.mem_append_right _ (List.mem_append_right _ (List.mem_append_right _ (List.mem_append_right _ (List.mem_append_right _ (List.mem_append_right _ (List.mem_append_right _ (List.mem_append_left _ h))))))))))))))))))))))))
theorem GG_13 : wsL_law0_r13.all goodWord = true := by decide +kernel
theorem GL_14 : ∀ w ∈ wsL_law0_r14, w ∈ wsL_law := fun w h => (List.mem_append_left _ (List.mem_append_left _ (List.mem_append_left _ (List.mem_append_left _ (List.mem_append_left _ (List.mem_append_left _ (List.mem_append_left _ (List.mem_append_left _ (List.mem_append_left _ (List.mem_append_left _ (List.mem_append_left _ (List.mem_append_right _ (List.mem_append_right _ (List.mem_append_right _ (List.mem_append_right _ (List.mem_append_right _ (List.mem_append_right _ (List.mem_append_right _ (List.mem_append_right _ (List.mem_append_right _ (List.mem_append_right _ (List.mem_append_right _ (List.mem_append_right _ (List.mem_append_right _ (List.mem_append_left _ h)))))))))))))))))))))))))
theorem GG_14 : wsL_law0_r14.all goodWord = true := by decide +kernel
theorem GL_15 : ∀ w ∈ wsL_law0_r15, w ∈ wsL_law := fun w h => (List.mem_append_left _ (List.mem_append_left _ (List.mem_append_left _ (List.mem_append_left _ (List.mem_append_left _ (List.mem_append_left _ (List.mem_append_left _ (List.mem_append_left _ (List.mem_append_left _ (List.mem_append_left _ (List.mem_append_left _ (List.mem_append_right _ (List.mem_append_right _ (List.mem_append_right _ (List.mem_append_right _ (List.mem_append_right _ (List.mem_append_right _ (List.mem_append_right _ (List.mem_append_right _ (List.mem_append_right _ (List.mem_append_right _ (List.mem_append_right _ (List.mem_append_right _ (List.mem_append_right _ (List.mem_append_right _ (List.mem_append_left _ h))))))))))))))))))))))))))
theorem GG_15 : wsL_law0_r15.all goodWord = true := by decide +kernel
theorem GL_16 : ∀ w ∈ wsL_law0_r16, w ∈ wsL_law := fun w h => (List.mem_append_left _ (List.mem_append_left _ (List.mem_append_left _ (List.mem_append_left _ (List.mem_append_left _ (List.mem_append_left _ (List.mem_append_left _ (List.mem_append_left _ (List.mem_append_left _ (List.mem_append_left _ (List.mem_append_left _ (List.mem_append_right _ (List.mem_append_right _ (List.mem_append_right _ (List.mem_append_right _ (List.mem_append_right _ (List.mem_append_right _ (List.mem_append_right _ (List.mem_append_right _ (List.mem_append_right _ (List.mem_append_right _ (List.mem_append_right _ (List.mem_append_right _ (List.mem_append_right _ (List.mem_append_right _ (List.mem_append_right _ (List.mem_append_left _ h)))))))))))))))))))))))))))
theorem GG_16 : wsL_law0_r16.all goodWord = true := by decide +kernel
theorem GL_17 : ∀ w ∈ wsL_law0_r17, w ∈ wsL_law := fun w h => (List.mem_append_left _ (List.mem_append_left _ (List.mem_append_left _ (List.mem_append_left _ (List.mem_append_left _ (List.mem_append_left _ (List.mem_append_left _ (List.mem_append_left _ (List.mem_append_left _ (List.mem_append_left _ (List.mem_append_left _ (List.mem_append_right _ (List.mem_append_right _ (List.mem_append_right _ (List.mem_append_right _ (List.mem_append_right _ (List.mem_append_right _ (List.mem_append_right _ (List.mem_append_right _ (List.mem_append_right _ (List.mem_append_right _ (List.mem_append_right _ (List.mem_append_right _ (List.mem_append_right _ (List.mem_append_right _ (List.mem_append_right _ (List.mem_append_right _ (List.mem_append_left _ h))))))))))))))))))))))))))))
theorem GG_17 : wsL_law0_r17.all goodWord = true := by decide +kernel
theorem GL_18 : ∀ w ∈ wsL_law0_r18, w ∈ wsL_law := fun w h => (List.mem_append_left _ (List.mem_append_left _ (List.mem_append_left _ (List.mem_append_left _ (List.mem_append_left _ (List.mem_append_left _ (List.mem_append_left _ (List.mem_append_left _ (List.mem_append_left _ (List.mem_append_left _ (List.mem_append_left _ (List.mem_append_right _ (List.mem_append_right _ (List.mem_append_right _ (List.mem_append_right _ (List.mem_append_right _ (List.mem_append_right _ (List.mem_append_right _ (List.mem_append_right _ (List.mem_append_right _ (List.mem_append_right _ (List.mem_append_right _ (List.mem_append_right _ (List.mem_append_right _ (List.mem_append_right _ (List.mem_append_right _ (List.mem_append_right _ (List.mem_append_right _ (List.mem_append_left _ h)))))))))))))))))))))))))))))
theorem GG_18 : wsL_law0_r18.all goodWord = true := by decide +kernel
theorem GL_19 : ∀ w ∈ wsL_law0_r19, w ∈ wsL_law := fun w h => (List.mem_append_left _ (List.mem_append_left _ (List.mem_append_left _ (List.mem_append_left _ (List.mem_append_left _ (List.mem_append_left _ (List.mem_append_left _ (List.mem_append_left _ (List.mem_append_left _ (List.mem_append_left _ (List.mem_append_left _ (List.mem_append_right _ (List.mem_append_right _ (List.mem_append_right _ (List.mem_append_right _ (List.mem_append_right _ (List.mem_append_right _ (List.mem_append_right _ (List.mem_append_right _ (List.mem_append_right _ (List.mem_append_right _ (List.mem_append_right _ (List.mem_append_right _ (List.mem_append_right _ (List.mem_append_right _ (List.mem_append_right _ (List.mem_append_right _ (List.mem_append_right _ (List.mem_append_right _ (List.mem_append_left _ h))))))))))))))))))))))))))))))
theorem GG_19 : wsL_law0_r19.all goodWord = true := by decide +kernel
theorem GL_20 : ∀ w ∈ wsL_law0_r20, w ∈ wsL_law := fun w h => (List.mem_append_left _ (List.mem_append_left _ (List.mem_append_left _ (List.mem_append_left _ (List.mem_append_left _ (List.mem_append_left _ (List.mem_append_left _ (List.mem_append_left _ (List.mem_append_left _ (List.mem_append_left _ (List.mem_append_left _ (List.mem_append_right _ (List.mem_append_right _ (List.mem_append_right _ (List.mem_append_right _ (List.mem_append_right _ (List.mem_append_right _ (List.mem_append_right _ (List.mem_append_right _ (List.mem_append_right _ (List.mem_append_right _ (List.mem_append_right _ (List.mem_append_right _ (List.mem_append_right _ (List.mem_append_right _ (List.mem_append_right _ (List.mem_append_right _ (List.mem_append_right _ (List.mem_append_right _ (List.mem_append_right _ (List.mem_append_left _ h)))))))))))))))))))))))))))))))
theorem GG_20 : wsL_law0_r20.all goodWord = true := by decide +kernel
theorem GL_21 : ∀ w ∈ wsL_law0_r21, w ∈ wsL_law := fun w h => (List.mem_append_left _ (List.mem_append_left _ (List.mem_append_left _ (List.mem_append_left _ (List.mem_append_left _ (List.mem_append_left _ (List.mem_append_left _ (List.mem_append_left _ (List.mem_append_left _ (List.mem_append_left _ (List.mem_append_left _ (List.mem_append_right _ (List.mem_append_right _ (List.mem_append_right _ (List.mem_append_right _ (List.mem_append_right _ (List.mem_append_right _ (List.mem_append_right _ (List.mem_append_right _ (List.mem_append_right _ (List.mem_append_right _ (List.mem_append_right _ (List.mem_append_right _ (List.mem_append_right _ (List.mem_append_right _ (List.mem_append_right _ (List.mem_append_right _ (List.mem_append_right _ (List.mem_append_right _ (List.mem_append_right _ (List.mem_append_right _ (List.mem_append_left _ h))))))))))))))))))))))))))))))))
theorem GG_21 : wsL_law0_r21.all goodWord = true := by decide +kernel
theorem GL_22 : ∀ w ∈ wsL_law0_r22, w ∈ wsL_law := fun w h => (List.mem_append_left _ (List.mem_append_left _ (List.mem_append_left _ (List.mem_append_left _ (List.mem_append_left _ (List.mem_append_left _ (List.mem_append_left _ (List.mem_append_left _ (List.mem_append_left _ (List.mem_append_left _ (List.mem_append_left _ (List.mem_append_right _ (List.mem_append_right _ (List.mem_append_right _ (List.mem_append_right _ (List.mem_append_right _ (List.mem_append_right _ (List.mem_append_right _ (List.mem_append_right _ (List.mem_append_right _ (List.mem_append_right _ (List.mem_append_right _ (List.mem_append_right _ (List.mem_append_right _ (List.mem_append_right _ (List.mem_append_right _ (List.mem_append_right _ (List.mem_append_right _ (List.mem_append_right _ (List.mem_append_right _ (List.mem_append_right _ (List.mem_append_right _ (List.mem_append_left _ h)))))))))))))))))))))))))))))))))
theorem GG_22 : wsL_law0_r22.all goodWord = true := by decide +kernel
theorem GL_23 : ∀ w ∈ wsL_law0_r23, w ∈ wsL_law := fun w h => (List.mem_append_left _ (List.mem_append_left _ (List.mem_append_left _ (List.mem_append_left _ (List.mem_append_left _ (List.mem_append_left _ (List.mem_append_left _ (List.mem_append_left _ (List.mem_append_left _ (List.mem_append_left _ (List.mem_append_left _ (List.mem_append_right _ (List.mem_append_right _ (List.mem_append_right _ (List.mem_append_right _ (List.mem_append_right _ (List.mem_append_right _ (List.mem_append_right _ (List.mem_append_right _ (List.mem_append_right _ (List.mem_append_right _ (List.mem_append_right _ (List.mem_append_right _ (List.mem_append_right _ (List.mem_append_right _ (List.mem_append_right _ (List.mem_append_right _ (List.mem_append_right _ (List.mem_append_right _ (List.mem_append_right _ (List.mem_append_right _ (List.mem_append_right _ (List.mem_append_right _ (List.mem_append_left _ h))))))))))))))))))))))))))))))))))
theorem GG_23 : wsL_law0_r23.all goodWord = true := by decide +kernel
theorem GL_24 : ∀ w ∈ wsL_law0_r24, w ∈ wsL_law := fun w h => (List.mem_append_left _ (List.mem_append_left _ (List.mem_append_left _ (List.mem_append_left _ (List.mem_append_left _ (List.mem_append_left _ (List.mem_append_left _ (List.mem_append_left _ (List.mem_append_left _ (List.mem_append_left _ (List.mem_append_left _ (List.mem_append_right _ (List.mem_append_right _ (List.mem_append_right _ (List.mem_append_right _ (List.mem_append_right _ (List.mem_append_right _ (List.mem_append_right _ (List.mem_append_right _ (List.mem_append_right _ (List.mem_append_right _ (List.mem_append_right _ (List.mem_append_right _ (List.mem_append_right _ (List.mem_append_right _ (List.mem_append_right _ (List.mem_append_right _ (List.mem_append_right _ (List.mem_append_right _ (List.mem_append_right _ (List.mem_append_right _ (List.mem_append_right _ (List.mem_append_right _ (List.mem_append_right _ h))))))))))))))))))))))))))))))))))
theorem GG_24 : wsL_law0_r24.all goodWord = true := by decide +kernel
theorem GX_6 : wsX60.all goodWord = true := by decide +kernel
theorem GX_3 : wsX30.all goodWord = true := by decide +kernel
theorem GX_1 : wsX10.all goodWord = true := by decide +kernel
theorem GX_5 : wsX50.all goodWord = true := by decide +kernel
theorem GX_4 : wsX40.all goodWord = true := by decide +kernel
theorem GX_2 : wsX20.all goodWord = true := by decide +kernel
theorem GX_0 : wsX00.all goodWord = true := by decide +kernel
theorem GT_96 : ∀ w ∈ (vx_atS RX6 96 "java/lang/IllegalArgumentException" ["java/lang/RuntimeException", "java/lang/Exception"]).filter goodWord, w ∈ wsL_law := fun w h => (List.mem_append_left _ (List.mem_append_left _ (List.mem_append_right _ h)))
theorem GT_110 : ∀ w ∈ (vx_atS RX6 110 "java/lang/IndexOutOfBoundsException" ["java/lang/RuntimeException", "java/lang/Exception"]).filter goodWord, w ∈ wsL_law := fun w h => (List.mem_append_left _ (List.mem_append_right _ h))
theorem GT_56 : ∀ w ∈ (vx_atS RX6 56 "java/lang/IllegalStateException" ["java/lang/RuntimeException", "java/lang/Exception"]).filter goodWord, w ∈ wsL_law := fun w h => (List.mem_append_right _ h)
theorem all_app {l1 l2 : List Cond} (h1 : l1.all goodWord = true) (h2 : l2.all goodWord = true) : (l1 ++ l2).all goodWord = true := by rw [List.all_append, h1, h2]; rfl
theorem all_flt (l1 : List Cond) : (l1.filter goodWord).all goodWord = true := List.all_eq_true.mpr fun w h => (List.mem_filter.mp h).2
theorem GG_0 : wsL_law0.all goodWord = true := (all_app (all_app (all_app (all_app (all_app (all_app (all_app (all_app (all_app GG_1 (all_app GG_2 (all_app GG_3 (all_app GG_4 (all_app GG_5 (all_app GG_6 (all_app GG_7 (all_app GG_8 (all_app GG_9 (all_app GG_10 (all_app GG_11 (all_app GG_12 (all_app GG_13 (all_app GG_14 (all_app GG_15 (all_app GG_16 (all_app GG_17 (all_app GG_18 (all_app GG_19 (all_app GG_20 (all_app GG_21 (all_app GG_22 (all_app GG_23 GG_24))))))))))))))))))))))) GX_6) GX_3) GX_1) GX_5) GX_4) GX_2) GX_0) (rfl : ([] : List Cond).all goodWord = true))
theorem GG_all : wsL_law.all goodWord = true := (all_app (all_app (all_app GG_0 (all_flt _)) (all_flt _)) (all_flt _))
/-- a method's words: its code first, then the one list -/
abbrev WW (w : Cond) : List Cond := w :: wsL_law
theorem gl_W {w w1 : Cond} (h : w1 ∈ wsL_law) : GoodIn (WW w) (WW w1) := fun v hv => by
  have h1 : v ∈ wsL_law := (List.mem_cons.mp hv).elim (fun e => e ▸ h) id
  exact ⟨List.mem_cons_of_mem _ h1, good_of_word (List.all_eq_true.mp GG_all v h1)⟩
theorem gl_in {w v : Cond} (h : v ∈ wsL_law) : v ∈ WW w ∧ ((v.onTables && v.keeps) = true ∨ ∃ ty, v = .arrayClass ty) := ⟨List.mem_cons_of_mem _ h, good_of_word (List.all_eq_true.mp GG_all v h)⟩
theorem gl_V {w w1 : Cond} {own C : String} {ix : Nat} {y : MethodName} (h0 : .methodLink own ix y ∈ wsL_law) (h1 : .instanceMethod y ∈ wsL_law) (h2 : .selects C y y ∈ wsL_law) (h3 : .initialized C ∈ wsL_law) (h4 : w1 ∈ wsL_law) : GoodIn (WW w) (wsV own ix C y (WW w1)) := by
  intro v hv
  rcases List.mem_append.mp hv with hv | hv
  · simp only [List.mem_cons, List.not_mem_nil, or_false] at hv
    rcases hv with rfl | rfl | rfl | rfl <;> first | exact gl_in h0 | exact gl_in h1 | exact gl_in h2 | exact gl_in h3
  · exact gl_W h4 v hv
theorem gl_S {w w1 : Cond} {own : String} {ix : Nat} {y : MethodName} (h0 : .methodLink own ix y ∈ wsL_law) (h1 : .static y ∈ wsL_law) (h3 : .initialized y.cls ∈ wsL_law) (h4 : w1 ∈ wsL_law) : GoodIn (WW w) (va_wsS own ix y (WW w1)) := by
  intro v hv
  rcases List.mem_append.mp hv with hv | hv
  · simp only [List.mem_cons, List.not_mem_nil, or_false] at hv
    rcases hv with rfl | rfl | rfl <;> first | exact gl_in h0 | exact gl_in h1 | exact gl_in h3
  · exact gl_W h4 v hv
