def RX0 : String := "CoastTiles$History"
def TX0 : u_T := fun k => match k with
  | 0 => ("CoastTiles$History", "states", "[LCoastTiles$State;", true)
  | _ => ("CoastTiles$History", "kept", "I", false)
def tyX0 : Nat → FieldType := fun k => match k with
  | 0 => .array (.object "CoastTiles$State")
  | _ => .int
abbrev wsX00 : List Cond := u_ws RX0 TX0 2
theorem nmX0 : ∀ a, a < 2 → ∀ b, b < 2 → a ≠ b → (TX0 a).2.1 ≠ (TX0 b).2.1 := by decide +kernel
theorem tyX0_ok : ∀ k, k < 2 → parseFieldDescriptor (TX0 k).2.2.1 = some (tyX0 k) := by decide +kernel
abbrev cX0_init : ByteArray := prog_2_method_1_code
def yX0_init : MethodName := ⟨RX0, "<init>", "()V"⟩
abbrev cX0_record : ByteArray := prog_2_method_2_code
def yX0_record : MethodName := ⟨RX0, "record", "(LCoastTiles$State;)V"⟩
abbrev cX0_discardOldest : ByteArray := prog_2_method_4_code
def yX0_discardOldest : MethodName := ⟨RX0, "discardOldest", "()V"⟩
def RX1 : String := "CoastTiles$ShapeTable"
def TX1 : u_T := fun k => match k with
  | 0 => ("CoastTiles$ShapeTable", "masks", "[I", true)
  | _ => ("CoastTiles$ShapeTable", "shapesByMask", "[I", true)
def tyX1 : Nat → FieldType := fun k => match k with
  | 0 => .array .int
  | _ => .array .int
abbrev wsX10 : List Cond := u_ws RX1 TX1 2
theorem nmX1 : ∀ a, a < 2 → ∀ b, b < 2 → a ≠ b → (TX1 a).2.1 ≠ (TX1 b).2.1 := by decide +kernel
theorem tyX1_ok : ∀ k, k < 2 → parseFieldDescriptor (TX1 k).2.2.1 = some (tyX1 k) := by decide +kernel
abbrev cX1_init : ByteArray := prog_3_method_1_code
def yX1_init : MethodName := ⟨RX1, "<init>", "()V"⟩
abbrev cX1_maskFor : ByteArray := prog_3_method_2_code
def yX1_maskFor : MethodName := ⟨RX1, "maskFor", "(I)I"⟩
abbrev cX1_shapeFor : ByteArray := prog_3_method_3_code
def yX1_shapeFor : MethodName := ⟨RX1, "shapeFor", "(I)I"⟩
abbrev cX1_turnedShape : ByteArray := prog_3_method_4_code
def yX1_turnedShape : MethodName := ⟨RX1, "turnedShape", "(II)I"⟩
def RX2 : String := "CoastTiles$Spread"
def TX2 : u_T := fun k => match k with
  | 0 => ("CoastTiles$Spread", "queue", "[I", true)
  | 1 => ("CoastTiles$Spread", "steps", "[I", true)
  | 2 => ("CoastTiles$Spread", "reachedTiles", "I", false)
  | _ => ("CoastTiles$Spread", "reachedEdge", "Z", false)
def tyX2 : Nat → FieldType := fun k => match k with
  | 0 => .array .int
  | 1 => .array .int
  | 2 => .int
  | _ => .boolean
abbrev wsX20 : List Cond := u_ws RX2 TX2 4
theorem nmX2 : ∀ a, a < 4 → ∀ b, b < 4 → a ≠ b → (TX2 a).2.1 ≠ (TX2 b).2.1 := by decide +kernel
theorem tyX2_ok : ∀ k, k < 4 → parseFieldDescriptor (TX2 k).2.2.1 = some (tyX2 k) := by decide +kernel
abbrev cX2_init : ByteArray := prog_4_method_1_code
def yX2_init : MethodName := ⟨RX2, "<init>", "()V"⟩
abbrev cX2_forget : ByteArray := prog_4_method_2_code
def yX2_forget : MethodName := ⟨RX2, "forget", "()V"⟩
abbrev cX2_hasReached : ByteArray := prog_4_method_3_code
def yX2_hasReached : MethodName := ⟨RX2, "hasReached", "(II)Z"⟩
abbrev cX2_stepsTo : ByteArray := prog_4_method_4_code
def yX2_stepsTo : MethodName := ⟨RX2, "stepsTo", "(II)I"⟩
abbrev cX2_overRegion : ByteArray := prog_4_method_5_code
def yX2_overRegion : MethodName := ⟨RX2, "overRegion", "(LCoastTiles$State;III)V"⟩
abbrev cX2_reachNeighbours : ByteArray := prog_4_method_6_code
def yX2_reachNeighbours : MethodName := ⟨RX2, "reachNeighbours", "(LCoastTiles$State;II)V"⟩
abbrev cX2_reach : ByteArray := prog_4_method_7_code
def yX2_reach : MethodName := ⟨RX2, "reach", "(LCoastTiles$State;III)V"⟩
def RX3 : String := "CoastTiles$State"
def TX3 : u_T := fun k => match k with
  | 0 => ("CoastTiles$State", "height", "I", false)
  | 1 => ("CoastTiles$State", "width", "I", false)
  | 2 => ("CoastTiles$State", "outsideIsLand", "Z", false)
  | 3 => ("CoastTiles$State", "landTile", "[Z", true)
  | _ => ("CoastTiles$State", "pinnedShape", "[I", true)
def tyX3 : Nat → FieldType := fun k => match k with
  | 0 => .int
  | 1 => .int
  | 2 => .boolean
  | 3 => .array .boolean
  | _ => .array .int
abbrev wsX30 : List Cond := u_ws RX3 TX3 5
theorem nmX3 : ∀ a, a < 5 → ∀ b, b < 5 → a ≠ b → (TX3 a).2.1 ≠ (TX3 b).2.1 := by decide +kernel
theorem tyX3_ok : ∀ k, k < 5 → parseFieldDescriptor (TX3 k).2.2.1 = some (tyX3 k) := by decide +kernel
abbrev cX3_init : ByteArray := prog_5_method_1_code
def yX3_init : MethodName := ⟨RX3, "<init>", "()V"⟩
abbrev cX3_has : ByteArray := prog_5_method_2_code
def yX3_has : MethodName := ⟨RX3, "has", "(II)Z"⟩
abbrev cX3_isLandAt : ByteArray := prog_5_method_3_code
def yX3_isLandAt : MethodName := ⟨RX3, "isLandAt", "(II)Z"⟩
abbrev cX3_pinAt : ByteArray := prog_5_method_4_code
def yX3_pinAt : MethodName := ⟨RX3, "pinAt", "(II)I"⟩
abbrev cX3_isPinnedAt : ByteArray := prog_5_method_5_code
def yX3_isPinnedAt : MethodName := ⟨RX3, "isPinnedAt", "(II)Z"⟩
abbrev cX3_putKind : ByteArray := prog_5_method_6_code
def yX3_putKind : MethodName := ⟨RX3, "putKind", "(IIZ)Z"⟩
abbrev cX3_putPin : ByteArray := prog_5_method_7_code
def yX3_putPin : MethodName := ⟨RX3, "putPin", "(III)V"⟩
abbrev cX3_becomeWater : ByteArray := prog_5_method_8_code
def yX3_becomeWater : MethodName := ⟨RX3, "becomeWater", "(II)V"⟩
abbrev cX3_copyFrom : ByteArray := prog_5_method_9_code
def yX3_copyFrom : MethodName := ⟨RX3, "copyFrom", "(LCoastTiles$State;)V"⟩
abbrev cX3_surroundingsOf : ByteArray := prog_5_method_10_code
def yX3_surroundingsOf : MethodName := ⟨RX3, "surroundingsOf", "(II)I"⟩
abbrev cX3_outsideBitsOf : ByteArray := prog_5_method_11_code
def yX3_outsideBitsOf : MethodName := ⟨RX3, "outsideBitsOf", "(II)I"⟩
abbrev cX3_landTiles : ByteArray := prog_5_method_12_code
def yX3_landTiles : MethodName := ⟨RX3, "landTiles", "()I"⟩
def RX4 : String := "CoastTiles$TextMap"
def TX4 : u_T := fun k => match k with
  | 0 => ("CoastTiles$TextMap", "codes", "[I", true)
  | 1 => ("CoastTiles$TextMap", "length", "I", false)
  | 2 => ("CoastTiles$TextMap", "draft", "LCoastTiles$State;", true)
  | 3 => ("CoastTiles$TextMap", "row", "I", false)
  | 4 => ("CoastTiles$TextMap", "column", "I", false)
  | 5 => ("CoastTiles$TextMap", "columnsOfFirstRow", "I", false)
  | _ => ("CoastTiles$TextMap", "number", "I", false)
def tyX4 : Nat → FieldType := fun k => match k with
  | 0 => .array .int
  | 1 => .int
  | 2 => .object "CoastTiles$State"
  | 3 => .int
  | 4 => .int
  | 5 => .int
  | _ => .int
abbrev wsX40 : List Cond := u_ws RX4 TX4 7
theorem nmX4 : ∀ a, a < 7 → ∀ b, b < 7 → a ≠ b → (TX4 a).2.1 ≠ (TX4 b).2.1 := by decide +kernel
theorem tyX4_ok : ∀ k, k < 7 → parseFieldDescriptor (TX4 k).2.2.1 = some (tyX4 k) := by decide +kernel
abbrev cX4_init : ByteArray := prog_6_method_1_code
def yX4_init : MethodName := ⟨RX4, "<init>", "()V"⟩
def RX5 : String := "CoastTiles"
def TX5 : u_T := fun k => match k with
  | 0 => ("CoastTiles", "table", "LCoastTiles$ShapeTable;", true)
  | 1 => ("CoastTiles", "map", "LCoastTiles$State;", true)
  | 2 => ("CoastTiles", "spare", "LCoastTiles$State;", true)
  | 3 => ("CoastTiles", "saved", "LCoastTiles$State;", true)
  | 4 => ("CoastTiles", "hasSaved", "Z", false)
  | 5 => ("CoastTiles", "history", "LCoastTiles$History;", true)
  | 6 => ("CoastTiles", "spread", "LCoastTiles$Spread;", true)
  | _ => ("CoastTiles", "text", "LCoastTiles$TextMap;", true)
def tyX5 : Nat → FieldType := fun k => match k with
  | 0 => .object "CoastTiles$ShapeTable"
  | 1 => .object "CoastTiles$State"
  | 2 => .object "CoastTiles$State"
  | 3 => .object "CoastTiles$State"
  | 4 => .boolean
  | 5 => .object "CoastTiles$History"
  | 6 => .object "CoastTiles$Spread"
  | _ => .object "CoastTiles$TextMap"
abbrev wsX50 : List Cond := u_ws RX5 TX5 8
theorem nmX5 : ∀ a, a < 8 → ∀ b, b < 8 → a ≠ b → (TX5 a).2.1 ≠ (TX5 b).2.1 := by decide +kernel
theorem tyX5_ok : ∀ k, k < 8 → parseFieldDescriptor (TX5 k).2.2.1 = some (tyX5 k) := by decide +kernel
abbrev cX5_init : ByteArray := prog_1_method_1_code
def yX5_init : MethodName := ⟨RX5, "<init>", "()V"⟩
abbrev cX5_begin : ByteArray := prog_1_method_2_code
def yX5_begin : MethodName := ⟨RX5, "begin", "(II)I"⟩
abbrev cX5_setOutside : ByteArray := prog_1_method_3_code
def yX5_setOutside : MethodName := ⟨RX5, "setOutside", "(Z)I"⟩
abbrev cX5_set : ByteArray := prog_1_method_4_code
def yX5_set : MethodName := ⟨RX5, "set", "(IIZ)I"⟩
abbrev cX5_fill : ByteArray := prog_1_method_5_code
def yX5_fill : MethodName := ⟨RX5, "fill", "(IIZ)I"⟩
abbrev cX5_brush : ByteArray := prog_1_method_6_code
def yX5_brush : MethodName := ⟨RX5, "brush", "(IIIZ)I"⟩
abbrev cX5_smooth : ByteArray := prog_1_method_7_code
def yX5_smooth : MethodName := ⟨RX5, "smooth", "(I)I"⟩
abbrev cX5_turn : ByteArray := prog_1_method_8_code
def yX5_turn : MethodName := ⟨RX5, "turn", "(I)I"⟩
abbrev cX5_rows : ByteArray := prog_1_method_9_code
def yX5_rows : MethodName := ⟨RX5, "rows", "()I"⟩
abbrev cX5_columns : ByteArray := prog_1_method_10_code
def yX5_columns : MethodName := ⟨RX5, "columns", "()I"⟩
abbrev cX5_tile : ByteArray := prog_1_method_11_code
def yX5_tile : MethodName := ⟨RX5, "tile", "(III)I"⟩
abbrev cX5_pin : ByteArray := prog_1_method_12_code
def yX5_pin : MethodName := ⟨RX5, "pin", "(III)I"⟩
abbrev cX5_unpin : ByteArray := prog_1_method_13_code
def yX5_unpin : MethodName := ⟨RX5, "unpin", "(II)I"⟩
abbrev cX5_faults : ByteArray := prog_1_method_14_code
def yX5_faults : MethodName := ⟨RX5, "faults", "()I"⟩
abbrev cX5_firstFault : ByteArray := prog_1_method_15_code
def yX5_firstFault : MethodName := ⟨RX5, "firstFault", "()I"⟩
abbrev cX5_maskOf : ByteArray := prog_1_method_16_code
def yX5_maskOf : MethodName := ⟨RX5, "maskOf", "(I)I"⟩
abbrev cX5_land : ByteArray := prog_1_method_22_code
def yX5_land : MethodName := ⟨RX5, "land", "()I"⟩
abbrev cX5_coast : ByteArray := prog_1_method_24_code
def yX5_coast : MethodName := ⟨RX5, "coast", "()I"⟩
abbrev cX5_islands : ByteArray := prog_1_method_25_code
def yX5_islands : MethodName := ⟨RX5, "islands", "()I"⟩
abbrev cX5_lakes : ByteArray := prog_1_method_26_code
def yX5_lakes : MethodName := ⟨RX5, "lakes", "()I"⟩
abbrev cX5_region : ByteArray := prog_1_method_27_code
def yX5_region : MethodName := ⟨RX5, "region", "(IIZ)I"⟩
abbrev cX5_largestIsland : ByteArray := prog_1_method_28_code
def yX5_largestIsland : MethodName := ⟨RX5, "largestIsland", "()I"⟩
abbrev cX5_way : ByteArray := prog_1_method_29_code
def yX5_way : MethodName := ⟨RX5, "way", "(IIII)I"⟩
abbrev cX5_coastIfChanged : ByteArray := prog_1_method_30_code
def yX5_coastIfChanged : MethodName := ⟨RX5, "coastIfChanged", "(II)I"⟩
abbrev cX5_needs : ByteArray := prog_1_method_31_code
def yX5_needs : MethodName := ⟨RX5, "needs", "(III)I"⟩
abbrev cX5_isLineCount : ByteArray := prog_1_method_39_code
def yX5_isLineCount : MethodName := ⟨RX5, "isLineCount", "(I)Z"⟩
abbrev cX5_isLineOf : ByteArray := prog_1_method_40_code
def yX5_isLineOf : MethodName := ⟨RX5, "isLineOf", "(II)Z"⟩
abbrev cX5_isShape : ByteArray := prog_1_method_41_code
def yX5_isShape : MethodName := ⟨RX5, "isShape", "(I)Z"⟩
abbrev cX5_position : ByteArray := prog_1_method_42_code
def yX5_position : MethodName := ⟨RX5, "position", "(II)I"⟩
abbrev cX5_rowStep : ByteArray := prog_1_method_43_code
def yX5_rowStep : MethodName := ⟨RX5, "rowStep", "(I)I"⟩
abbrev cX5_columnStep : ByteArray := prog_1_method_44_code
def yX5_columnStep : MethodName := ⟨RX5, "columnStep", "(I)I"⟩
abbrev cX5_rotated : ByteArray := prog_1_method_45_code
def yX5_rotated : MethodName := ⟨RX5, "rotated", "(II)I"⟩
abbrev cX5_bitsThatCount : ByteArray := prog_1_method_46_code
def yX5_bitsThatCount : MethodName := ⟨RX5, "bitsThatCount", "(I)I"⟩
abbrev cX5_regularPart : ByteArray := prog_1_method_47_code
def yX5_regularPart : MethodName := ⟨RX5, "regularPart", "(I)I"⟩
abbrev cX5_rightMaskAt : ByteArray := prog_1_method_49_code
def yX5_rightMaskAt : MethodName := ⟨RX5, "rightMaskAt", "(II)I"⟩
abbrev cX5_rightShapeAt : ByteArray := prog_1_method_50_code
def yX5_rightShapeAt : MethodName := ⟨RX5, "rightShapeAt", "(II)I"⟩
abbrev cX5_shapeAt : ByteArray := prog_1_method_51_code
def yX5_shapeAt : MethodName := ⟨RX5, "shapeAt", "(II)I"⟩
abbrev cX5_faultsAt : ByteArray := prog_1_method_52_code
def yX5_faultsAt : MethodName := ⟨RX5, "faultsAt", "(II)I"⟩
abbrev cX5_isReshapedBy : ByteArray := prog_1_method_53_code
def yX5_isReshapedBy : MethodName := ⟨RX5, "isReshapedBy", "(III)Z"⟩
abbrev cX5_reshapedByOutside : ByteArray := prog_1_method_54_code
def yX5_reshapedByOutside : MethodName := ⟨RX5, "reshapedByOutside", "()I"⟩
abbrev cX5_reshapedByTile : ByteArray := prog_1_method_55_code
def yX5_reshapedByTile : MethodName := ⟨RX5, "reshapedByTile", "(II)I"⟩
abbrev cX5_turnOnceFromSpare : ByteArray := prog_1_method_56_code
def yX5_turnOnceFromSpare : MethodName := ⟨RX5, "turnOnceFromSpare", "()V"⟩
def RX6 : String := "CoastTilesModel"
def TX6 : u_T := fun k => match k with
  | _ => ("", "", "", false)
def tyX6 : Nat → FieldType := fun k => match k with
  | _ => .int
abbrev wsX60 : List Cond := u_ws RX6 TX6 0
theorem nmX6 : ∀ a, a < 0 → ∀ b, b < 0 → a ≠ b → (TX6 a).2.1 ≠ (TX6 b).2.1 := by decide +kernel
theorem tyX6_ok : ∀ k, k < 0 → parseFieldDescriptor (TX6 k).2.2.1 = some (tyX6 k) := by decide +kernel
def RJ6 : String := "java/lang/Integer"
def TJ6 : u_T := fun k => match k with
  | _ => ("", "", "", false)
def tyJ6 : Nat → FieldType := fun k => match k with
  | _ => .int
abbrev wsJ60 : List Cond := u_ws RJ6 TJ6 0
theorem nmJ6 : ∀ a, a < 0 → ∀ b, b < 0 → a ≠ b → (TJ6 a).2.1 ≠ (TJ6 b).2.1 := by decide +kernel
theorem tyJ6_ok : ∀ k, k < 0 → parseFieldDescriptor (TJ6 k).2.2.1 = some (tyJ6 k) := by decide +kernel
abbrev cJ6_bitCount_0f7a4 : ByteArray := prog_9_method_49_code
def yJ6_bitCount_0f7a4 : MethodName := ⟨RJ6, "bitCount", "(I)I"⟩
def RJ9 : String := "java/lang/Math"
def TJ9 : u_T := fun k => match k with
  | _ => ("", "", "", false)
def tyJ9 : Nat → FieldType := fun k => match k with
  | _ => .int
abbrev wsJ90 : List Cond := u_ws RJ9 TJ9 0
theorem nmJ9 : ∀ a, a < 0 → ∀ b, b < 0 → a ≠ b → (TJ9 a).2.1 ≠ (TJ9 b).2.1 := by decide +kernel
theorem tyJ9_ok : ∀ k, k < 0 → parseFieldDescriptor (TJ9 k).2.2.1 = some (tyJ9 k) := by decide +kernel
abbrev cJ9_max_7cf53 : ByteArray := prog_10_method_65_code
def yJ9_max_7cf53 : MethodName := ⟨RJ9, "max", "(II)I"⟩
abbrev cJ9_min_7cf53 : ByteArray := prog_10_method_69_code
def yJ9_min_7cf53 : MethodName := ⟨RJ9, "min", "(II)I"⟩
def RJ7 : String := "java/util/Arrays"
def TJ7 : u_T := fun k => match k with
  | _ => ("", "", "", false)
def tyJ7 : Nat → FieldType := fun k => match k with
  | _ => .int
abbrev wsJ70 : List Cond := u_ws RJ7 TJ7 0
theorem nmJ7 : ∀ a, a < 0 → ∀ b, b < 0 → a ≠ b → (TJ7 a).2.1 ≠ (TJ7 b).2.1 := by decide +kernel
theorem tyJ7_ok : ∀ k, k < 0 → parseFieldDescriptor (TJ7 k).2.2.1 = some (tyJ7 k) := by decide +kernel
abbrev cJ7_fill_53178 : ByteArray := prog_11_method_103_code
def yJ7_fill_53178 : MethodName := ⟨RJ7, "fill", "([II)V"⟩
def RL : String := "CoastTilesLaw"
abbrev cL_cell : ByteArray := method_2_code
def yL_cell : MethodName := ⟨RL, "cell", "([II)I"⟩
abbrev cL_low : ByteArray := method_3_code
def yL_low : MethodName := ⟨RL, "low", "(II)I"⟩
abbrev cL_land : ByteArray := method_4_code
def yL_land : MethodName := ⟨RL, "land", "([III)I"⟩
abbrev cL_frame : ByteArray := method_5_code
def yL_frame : MethodName := ⟨RL, "frame", "([I[I)V"⟩
abbrev cL_lay : ByteArray := method_6_code
def yL_lay : MethodName := ⟨RL, "lay", "([IIII)V"⟩
abbrev cL_pin : ByteArray := method_7_code
def yL_pin : MethodName := ⟨RL, "pin", "([III)I"⟩
abbrev cL_layPin : ByteArray := method_8_code
def yL_layPin : MethodName := ⟨RL, "layPin", "([IIII)V"⟩
abbrev cL_side : ByteArray := method_9_code
def yL_side : MethodName := ⟨RL, "side", "(I)I"⟩
abbrev cL_across : ByteArray := method_10_code
def yL_across : MethodName := ⟨RL, "across", "(I)I"⟩
abbrev cL_around : ByteArray := method_11_code
def yL_around : MethodName := ⟨RL, "around", "([III)I"⟩
abbrev cL_regular : ByteArray := method_12_code
def yL_regular : MethodName := ⟨RL, "regular", "(I)I"⟩
abbrev cL_shape : ByteArray := method_13_code
def yL_shape : MethodName := ⟨RL, "shape", "(I)I"⟩
abbrev cL_mask : ByteArray := method_14_code
def yL_mask : MethodName := ⟨RL, "mask", "(I)I"⟩
abbrev cL_bits : ByteArray := method_15_code
def yL_bits : MethodName := ⟨RL, "bits", "(I)I"⟩
abbrev cL_has : ByteArray := method_16_code
def yL_has : MethodName := ⟨RL, "has", "([I[III)I"⟩
abbrev cL_tiles : ByteArray := method_17_code
def yL_tiles : MethodName := ⟨RL, "tiles", "(LCoastTiles;[I[I[II)Z"⟩
abbrev cL_spread : ByteArray := method_18_code
def yL_spread : MethodName := ⟨RL, "spread", "([I[IIIZII)I"⟩
abbrev cL_regions : ByteArray := method_19_code
def yL_regions : MethodName := ⟨RL, "regions", "(LCoastTiles;[I[II)Z"⟩
abbrev cL_needs : ByteArray := method_20_code
def yL_needs : MethodName := ⟨RL, "needs", "(LCoastTiles;[I[IIII)Z"⟩
abbrev cL_become : ByteArray := method_21_code
def yL_become : MethodName := ⟨RL, "become", "([I[IIII)I"⟩
abbrev cL_other : ByteArray := method_22_code
def yL_other : MethodName := ⟨RL, "other", "([I[I[I[I[I)I"⟩
abbrev cL_copy : ByteArray := method_23_code
def yL_copy : MethodName := ⟨RL, "copy", "([I[I)V"⟩
abbrev cL_law : ByteArray := code
def yL_law : MethodName := ⟨RL, "law", "([I)Z"⟩
abbrev vwCl : List vw_C := [(RX0, TX0, 2), (RX1, TX1, 2), (RX2, TX2, 4), (RX3, TX3, 5), (RX4, TX4, 7), (RX5, TX5, 8)]
set_option maxRecDepth 20000 in
theorem inX0 : ∀ w ∈ wsX00, w ∈ TB := by decide +kernel
set_option maxRecDepth 20000 in
theorem inX1 : ∀ w ∈ wsX10, w ∈ TB := by decide +kernel
set_option maxRecDepth 20000 in
theorem inX2 : ∀ w ∈ wsX20, w ∈ TB := by decide +kernel
set_option maxRecDepth 20000 in
theorem inX3 : ∀ w ∈ wsX30, w ∈ TB := by decide +kernel
set_option maxRecDepth 20000 in
theorem inX4 : ∀ w ∈ wsX40, w ∈ TB := by decide +kernel
set_option maxRecDepth 20000 in
theorem inX5 : ∀ w ∈ wsX50, w ∈ TB := by decide +kernel
