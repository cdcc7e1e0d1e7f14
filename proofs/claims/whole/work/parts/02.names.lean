def RX0 : String := "PinHouse$Door"
def TX0 : u_T := fun k => match k with
  | 0 => ("PinHouse$Door", "one", "I", false)
  | 1 => ("PinHouse$Door", "other", "I", false)
  | 2 => ("PinHouse$Door", "first", "I", false)
  | 3 => ("PinHouse$Door", "second", "I", false)
  | _ => ("PinHouse$Door", "timesCut", "I", false)
def tyX0 : Nat → FieldType := fun k => match k with
  | 0 => .int
  | 1 => .int
  | 2 => .int
  | 3 => .int
  | _ => .int
abbrev wsX00 : List Cond := u_ws RX0 TX0 5
theorem nmX0 : ∀ a, a < 5 → ∀ b, b < 5 → a ≠ b → (TX0 a).2.1 ≠ (TX0 b).2.1 := by decide +kernel
theorem tyX0_ok : ∀ k, k < 5 → parseFieldDescriptor (TX0 k).2.2.1 = some (tyX0 k) := by decide +kernel
abbrev cX0_init : ByteArray := prog_2_method_1_code
def yX0_init : MethodName := ⟨RX0, "<init>", "()V"⟩
abbrev cX0_copyFrom : ByteArray := prog_2_method_2_code
def yX0_copyFrom : MethodName := ⟨RX0, "copyFrom", "(LPinHouse$Door;)V"⟩
abbrev cX0_build : ByteArray := prog_2_method_3_code
def yX0_build : MethodName := ⟨RX0, "build", "(IIII)V"⟩
abbrev cX0_weight : ByteArray := prog_2_method_4_code
def yX0_weight : MethodName := ⟨RX0, "weight", "()I"⟩
abbrev cX0_isOpenedBy : ByteArray := prog_2_method_5_code
def yX0_isOpenedBy : MethodName := ⟨RX0, "isOpenedBy", "(I)Z"⟩
abbrev cX0_beyond : ByteArray := prog_2_method_6_code
def yX0_beyond : MethodName := ⟨RX0, "beyond", "(I)I"⟩
def RX1 : String := "PinHouse$History"
def TX1 : u_T := fun k => match k with
  | 0 => ("PinHouse$History", "states", "[LPinHouse$House;", true)
  | _ => ("PinHouse$History", "size", "I", false)
def tyX1 : Nat → FieldType := fun k => match k with
  | 0 => .array (.object "PinHouse$House")
  | _ => .int
abbrev wsX10 : List Cond := u_ws RX1 TX1 2
theorem nmX1 : ∀ a, a < 2 → ∀ b, b < 2 → a ≠ b → (TX1 a).2.1 ≠ (TX1 b).2.1 := by decide +kernel
theorem tyX1_ok : ∀ k, k < 2 → parseFieldDescriptor (TX1 k).2.2.1 = some (tyX1 k) := by decide +kernel
abbrev cX1_init : ByteArray := prog_3_method_1_code
def yX1_init : MethodName := ⟨RX1, "<init>", "()V"⟩
abbrev cX1_keep : ByteArray := prog_3_method_2_code
def yX1_keep : MethodName := ⟨RX1, "keep", "(LPinHouse$House;)LPinHouse$House;"⟩
abbrev cX1_takeLatest : ByteArray := prog_3_method_3_code
def yX1_takeLatest : MethodName := ⟨RX1, "takeLatest", "()LPinHouse$House;"⟩
def RX2 : String := "PinHouse$House"
def TX2 : u_T := fun k => match k with
  | 0 => ("PinHouse$House", "settings", "[I", true)
  | 1 => ("PinHouse$House", "doors", "[LPinHouse$Door;", true)
  | 2 => ("PinHouse$House", "keys", "[LPinHouse$Key;", true)
  | 3 => ("PinHouse$House", "plan", "LPinHouse$Plan;", true)
  | 4 => ("PinHouse$House", "doorCount", "I", false)
  | 5 => ("PinHouse$House", "keyCount", "I", false)
  | 6 => ("PinHouse$House", "room", "I", false)
  | 7 => ("PinHouse$House", "walked", "I", false)
  | 8 => ("PinHouse$House", "box", "I", false)
  | 9 => ("PinHouse$House", "cameIn", "I", false)
  | _ => ("PinHouse$House", "lost", "I", false)
def tyX2 : Nat → FieldType := fun k => match k with
  | 0 => .array .int
  | 1 => .array (.object "PinHouse$Door")
  | 2 => .array (.object "PinHouse$Key")
  | 3 => .object "PinHouse$Plan"
  | 4 => .int
  | 5 => .int
  | 6 => .int
  | 7 => .int
  | 8 => .int
  | 9 => .int
  | _ => .int
abbrev wsX20 : List Cond := u_ws RX2 TX2 11
theorem nmX2 : ∀ a, a < 11 → ∀ b, b < 11 → a ≠ b → (TX2 a).2.1 ≠ (TX2 b).2.1 := by decide +kernel
theorem tyX2_ok : ∀ k, k < 11 → parseFieldDescriptor (TX2 k).2.2.1 = some (tyX2 k) := by decide +kernel
abbrev cX2_init : ByteArray := prog_4_method_1_code
def yX2_init : MethodName := ⟨RX2, "<init>", "()V"⟩
abbrev cX2_copyFrom : ByteArray := prog_4_method_2_code
def yX2_copyFrom : MethodName := ⟨RX2, "copyFrom", "(LPinHouse$House;)V"⟩
abbrev cX2_isRoom : ByteArray := prog_4_method_3_code
def yX2_isRoom : MethodName := ⟨RX2, "isRoom", "(I)Z"⟩
abbrev cX2_hasDoor : ByteArray := prog_4_method_4_code
def yX2_hasDoor : MethodName := ⟨RX2, "hasDoor", "(I)Z"⟩
abbrev cX2_hasDoors : ByteArray := prog_4_method_5_code
def yX2_hasDoors : MethodName := ⟨RX2, "hasDoors", "(I)Z"⟩
abbrev cX2_hasKey : ByteArray := prog_4_method_6_code
def yX2_hasKey : MethodName := ⟨RX2, "hasKey", "(I)Z"⟩
abbrev cX2_changeSetting : ByteArray := prog_4_method_7_code
def yX2_changeSetting : MethodName := ⟨RX2, "changeSetting", "(II)I"⟩
abbrev cX2_bringBrass : ByteArray := prog_4_method_8_code
def yX2_bringBrass : MethodName := ⟨RX2, "bringBrass", "(I)I"⟩
abbrev cX2_makeDoor : ByteArray := prog_4_method_9_code
def yX2_makeDoor : MethodName := ⟨RX2, "makeDoor", "(IIII)I"⟩
abbrev cX2_cutAnew : ByteArray := prog_4_method_10_code
def yX2_cutAnew : MethodName := ⟨RX2, "cutAnew", "(III)I"⟩
abbrev cX2_makeKey : ByteArray := prog_4_method_11_code
def yX2_makeKey : MethodName := ⟨RX2, "makeKey", "(II)I"⟩
abbrev cX2_meltKey : ByteArray := prog_4_method_12_code
def yX2_meltKey : MethodName := ⟨RX2, "meltKey", "(I)I"⟩
abbrev cX2_takeKey : ByteArray := prog_4_method_13_code
def yX2_takeKey : MethodName := ⟨RX2, "takeKey", "(I)I"⟩
abbrev cX2_layKeyDown : ByteArray := prog_4_method_14_code
def yX2_layKeyDown : MethodName := ⟨RX2, "layKeyDown", "(I)I"⟩
abbrev cX2_moveKey : ByteArray := prog_4_method_15_code
def yX2_moveKey : MethodName := ⟨RX2, "moveKey", "(III)I"⟩
abbrev cX2_walkThrough : ByteArray := prog_4_method_16_code
def yX2_walkThrough : MethodName := ⟨RX2, "walkThrough", "(I)I"⟩
abbrev cX2_planCut : ByteArray := prog_4_method_17_code
def yX2_planCut : MethodName := ⟨RX2, "planCut", "(III)I"⟩
abbrev cX2_emptyPlan : ByteArray := prog_4_method_18_code
def yX2_emptyPlan : MethodName := ⟨RX2, "emptyPlan", "()I"⟩
abbrev cX2_carryPlanned : ByteArray := prog_4_method_19_code
def yX2_carryPlanned : MethodName := ⟨RX2, "carryPlanned", "(I)I"⟩
abbrev cX2_obey : ByteArray := prog_4_method_20_code
def yX2_obey : MethodName := ⟨RX2, "obey", "(LPinHouse$Order;)I"⟩
abbrev cX2_keysAt : ByteArray := prog_4_method_21_code
def yX2_keysAt : MethodName := ⟨RX2, "keysAt", "(I)I"⟩
abbrev cX2_keysOpening : ByteArray := prog_4_method_22_code
def yX2_keysOpening : MethodName := ⟨RX2, "keysOpening", "(I)I"⟩
abbrev cX2_doorsOpenedBy : ByteArray := prog_4_method_23_code
def yX2_doorsOpenedBy : MethodName := ⟨RX2, "doorsOpenedBy", "(I)I"⟩
abbrev cX2_brassInLocks : ByteArray := prog_4_method_24_code
def yX2_brassInLocks : MethodName := ⟨RX2, "brassInLocks", "()I"⟩
abbrev cX2_brassInKeys : ByteArray := prog_4_method_25_code
def yX2_brassInKeys : MethodName := ⟨RX2, "brassInKeys", "()I"⟩
abbrev cX2_aboutDoor : ByteArray := prog_4_method_26_code
def yX2_aboutDoor : MethodName := ⟨RX2, "aboutDoor", "(II)I"⟩
abbrev cX2_aboutKey : ByteArray := prog_4_method_27_code
def yX2_aboutKey : MethodName := ⟨RX2, "aboutKey", "(II)I"⟩
abbrev cX2_aboutAll : ByteArray := prog_4_method_28_code
def yX2_aboutAll : MethodName := ⟨RX2, "aboutAll", "(I)I"⟩
def RX3 : String := "PinHouse$Key"
def TX3 : u_T := fun k => match k with
  | 0 => ("PinHouse$Key", "cuts", "I", false)
  | 1 => ("PinHouse$Key", "weight", "I", false)
  | _ => ("PinHouse$Key", "place", "I", false)
def tyX3 : Nat → FieldType := fun k => match k with
  | 0 => .int
  | 1 => .int
  | _ => .int
abbrev wsX30 : List Cond := u_ws RX3 TX3 3
theorem nmX3 : ∀ a, a < 3 → ∀ b, b < 3 → a ≠ b → (TX3 a).2.1 ≠ (TX3 b).2.1 := by decide +kernel
theorem tyX3_ok : ∀ k, k < 3 → parseFieldDescriptor (TX3 k).2.2.1 = some (tyX3 k) := by decide +kernel
abbrev cX3_init : ByteArray := prog_5_method_1_code
def yX3_init : MethodName := ⟨RX3, "<init>", "()V"⟩
abbrev cX3_copyFrom : ByteArray := prog_5_method_2_code
def yX3_copyFrom : MethodName := ⟨RX3, "copyFrom", "(LPinHouse$Key;)V"⟩
def RX4 : String := "PinHouse$KeySearch"
def TX4 : u_T := fun k => match k with
  | 0 => ("PinHouse$KeySearch", "fitting", "[I", true)
  | 1 => ("PinHouse$KeySearch", "ways", "[I", true)
  | 2 => ("PinHouse$KeySearch", "waysOn", "[I", true)
  | _ => ("PinHouse$KeySearch", "step", "I", false)
def tyX4 : Nat → FieldType := fun k => match k with
  | 0 => .array .int
  | 1 => .array .int
  | 2 => .array .int
  | _ => .int
abbrev wsX40 : List Cond := u_ws RX4 TX4 4
theorem nmX4 : ∀ a, a < 4 → ∀ b, b < 4 → a ≠ b → (TX4 a).2.1 ≠ (TX4 b).2.1 := by decide +kernel
theorem tyX4_ok : ∀ k, k < 4 → parseFieldDescriptor (TX4 k).2.2.1 = some (tyX4 k) := by decide +kernel
abbrev cX4_init : ByteArray := prog_6_method_1_code
def yX4_init : MethodName := ⟨RX4, "<init>", "()V"⟩
abbrev cX4_work : ByteArray := prog_6_method_2_code
def yX4_work : MethodName := ⟨RX4, "work", "(LPinHouse$House;I)V"⟩
abbrev cX4_keepFitting : ByteArray := prog_6_method_3_code
def yX4_keepFitting : MethodName := ⟨RX4, "keepFitting", "(LPinHouse$Door;)V"⟩
abbrev cX4_fits : ByteArray := prog_6_method_4_code
def yX4_fits : MethodName := ⟨RX4, "fits", "(II)Z"⟩
abbrev cX4_howMany : ByteArray := prog_6_method_5_code
def yX4_howMany : MethodName := ⟨RX4, "howMany", "(LPinHouse$House;I)I"⟩
abbrev cX4_countOn : ByteArray := prog_6_method_6_code
def yX4_countOn : MethodName := ⟨RX4, "countOn", "(I)V"⟩
abbrev cX4_waysBeside : ByteArray := prog_6_method_7_code
def yX4_waysBeside : MethodName := ⟨RX4, "waysBeside", "(I)I"⟩
abbrev cX4_leastJustFor : ByteArray := prog_6_method_8_code
def yX4_leastJustFor : MethodName := ⟨RX4, "leastJustFor", "(LPinHouse$House;I)I"⟩
abbrev cX4_misfitsFrom : ByteArray := prog_6_method_9_code
def yX4_misfitsFrom : MethodName := ⟨RX4, "misfitsFrom", "(I)I"⟩
def RX5 : String := "PinHouse$Order"
def TX5 : u_T := fun k => match k with
  | 0 => ("PinHouse$Order", "kind", "C", false)
  | 1 => ("PinHouse$Order", "number", "I", false)
  | 2 => ("PinHouse$Order", "first", "I", false)
  | _ => ("PinHouse$Order", "second", "I", false)
def tyX5 : Nat → FieldType := fun k => match k with
  | 0 => .char
  | 1 => .int
  | 2 => .int
  | _ => .int
abbrev wsX50 : List Cond := u_ws RX5 TX5 4
theorem nmX5 : ∀ a, a < 4 → ∀ b, b < 4 → a ≠ b → (TX5 a).2.1 ≠ (TX5 b).2.1 := by decide +kernel
theorem tyX5_ok : ∀ k, k < 4 → parseFieldDescriptor (TX5 k).2.2.1 = some (tyX5 k) := by decide +kernel
abbrev cX5_init : ByteArray := prog_7_method_1_code
def yX5_init : MethodName := ⟨RX5, "<init>", "()V"⟩
def RX6 : String := "PinHouse$Pad"
def TX6 : u_T := fun k => match k with
  | 0 => ("PinHouse$Pad", "signs", "[C", true)
  | 1 => ("PinHouse$Pad", "length", "I", false)
  | 2 => ("PinHouse$Pad", "orders", "[LPinHouse$Order;", true)
  | 3 => ("PinHouse$Pad", "orderCount", "I", false)
  | _ => ("PinHouse$Pad", "at", "I", false)
def tyX6 : Nat → FieldType := fun k => match k with
  | 0 => .array .char
  | 1 => .int
  | 2 => .array (.object "PinHouse$Order")
  | 3 => .int
  | _ => .int
abbrev wsX60 : List Cond := u_ws RX6 TX6 5
theorem nmX6 : ∀ a, a < 5 → ∀ b, b < 5 → a ≠ b → (TX6 a).2.1 ≠ (TX6 b).2.1 := by decide +kernel
theorem tyX6_ok : ∀ k, k < 5 → parseFieldDescriptor (TX6 k).2.2.1 = some (tyX6 k) := by decide +kernel
abbrev cX6_init : ByteArray := prog_8_method_1_code
def yX6_init : MethodName := ⟨RX6, "<init>", "()V"⟩
abbrev cX6_append : ByteArray := prog_8_method_2_code
def yX6_append : MethodName := ⟨RX6, "append", "(J)I"⟩
abbrev cX6_howManyIn : ByteArray := prog_8_method_3_code
def yX6_howManyIn : MethodName := ⟨RX6, "howManyIn", "(J)I"⟩
abbrev cX6_clear : ByteArray := prog_8_method_4_code
def yX6_clear : MethodName := ⟨RX6, "clear", "()I"⟩
abbrev cX6_read : ByteArray := prog_8_method_5_code
def yX6_read : MethodName := ⟨RX6, "read", "()I"⟩
abbrev cX6_readOrder : ByteArray := prog_8_method_6_code
def yX6_readOrder : MethodName := ⟨RX6, "readOrder", "(LPinHouse$Order;)Z"⟩
abbrev cX6_readNewLock : ByteArray := prog_8_method_7_code
def yX6_readNewLock : MethodName := ⟨RX6, "readNewLock", "(LPinHouse$Order;)Z"⟩
abbrev cX6_readSign : ByteArray := prog_8_method_8_code
def yX6_readSign : MethodName := ⟨RX6, "readSign", "(C)Z"⟩
abbrev cX6_readBetween : ByteArray := prog_8_method_9_code
def yX6_readBetween : MethodName := ⟨RX6, "readBetween", "(CC)I"⟩
abbrev cX6_readCuts : ByteArray := prog_8_method_10_code
def yX6_readCuts : MethodName := ⟨RX6, "readCuts", "()I"⟩
abbrev cX6_readNumber : ByteArray := prog_8_method_11_code
def yX6_readNumber : MethodName := ⟨RX6, "readNumber", "()I"⟩
def RX7 : String := "PinHouse$Plan"
def TX7 : u_T := fun k => match k with
  | 0 => ("PinHouse$Plan", "doors", "[I", true)
  | 1 => ("PinHouse$Plan", "firsts", "[I", true)
  | 2 => ("PinHouse$Plan", "seconds", "[I", true)
  | _ => ("PinHouse$Plan", "size", "I", false)
def tyX7 : Nat → FieldType := fun k => match k with
  | 0 => .array .int
  | 1 => .array .int
  | 2 => .array .int
  | _ => .int
abbrev wsX70 : List Cond := u_ws RX7 TX7 4
theorem nmX7 : ∀ a, a < 4 → ∀ b, b < 4 → a ≠ b → (TX7 a).2.1 ≠ (TX7 b).2.1 := by decide +kernel
theorem tyX7_ok : ∀ k, k < 4 → parseFieldDescriptor (TX7 k).2.2.1 = some (tyX7 k) := by decide +kernel
abbrev cX7_init : ByteArray := prog_9_method_1_code
def yX7_init : MethodName := ⟨RX7, "<init>", "()V"⟩
abbrev cX7_copyFrom : ByteArray := prog_9_method_2_code
def yX7_copyFrom : MethodName := ⟨RX7, "copyFrom", "(LPinHouse$Plan;)V"⟩
abbrev cX7_placeOf : ByteArray := prog_9_method_3_code
def yX7_placeOf : MethodName := ⟨RX7, "placeOf", "(I)I"⟩
def RX8 : String := "PinHouse$PlanSearch"
def TX8 : u_T := fun k => match k with
  | 0 => ("PinHouse$PlanSearch", "back", "[I", true)
  | 1 => ("PinHouse$PlanSearch", "needed", "[I", true)
  | 2 => ("PinHouse$PlanSearch", "boxAfter", "[I", true)
  | 3 => ("PinHouse$PlanSearch", "orders", "[I", true)
  | 4 => ("PinHouse$PlanSearch", "lasts", "[I", true)
  | 5 => ("PinHouse$PlanSearch", "missing", "[I", true)
  | _ => ("PinHouse$PlanSearch", "size", "I", false)
def tyX8 : Nat → FieldType := fun k => match k with
  | 0 => .array .int
  | 1 => .array .int
  | 2 => .array .int
  | 3 => .array .int
  | 4 => .array .int
  | 5 => .array .int
  | _ => .int
abbrev wsX80 : List Cond := u_ws RX8 TX8 7
theorem nmX8 : ∀ a, a < 7 → ∀ b, b < 7 → a ≠ b → (TX8 a).2.1 ≠ (TX8 b).2.1 := by decide +kernel
theorem tyX8_ok : ∀ k, k < 7 → parseFieldDescriptor (TX8 k).2.2.1 = some (tyX8 k) := by decide +kernel
abbrev cX8_init : ByteArray := prog_10_method_1_code
def yX8_init : MethodName := ⟨RX8, "<init>", "()V"⟩
abbrev cX8_work : ByteArray := prog_10_method_2_code
def yX8_work : MethodName := ⟨RX8, "work", "(LPinHouse$House;)V"⟩
abbrev cX8_weigh : ByteArray := prog_10_method_3_code
def yX8_weigh : MethodName := ⟨RX8, "weigh", "(LPinHouse$House;I)V"⟩
abbrev cX8_gainOf : ByteArray := prog_10_method_4_code
def yX8_gainOf : MethodName := ⟨RX8, "gainOf", "(I)I"⟩
abbrev cX8_missingFor : ByteArray := prog_10_method_5_code
def yX8_missingFor : MethodName := ⟨RX8, "missingFor", "(II)I"⟩
abbrev cX8_lookOn : ByteArray := prog_10_method_6_code
def yX8_lookOn : MethodName := ⟨RX8, "lookOn", "(I)V"⟩
abbrev cX8_howManyOrders : ByteArray := prog_10_method_7_code
def yX8_howManyOrders : MethodName := ⟨RX8, "howManyOrders", "()I"⟩
abbrev cX8_leastBrass : ByteArray := prog_10_method_8_code
def yX8_leastBrass : MethodName := ⟨RX8, "leastBrass", "()I"⟩
abbrev cX8_onlyLast : ByteArray := prog_10_method_9_code
def yX8_onlyLast : MethodName := ⟨RX8, "onlyLast", "()I"⟩
abbrev cX8_firstOrderAt : ByteArray := prog_10_method_10_code
def yX8_firstOrderAt : MethodName := ⟨RX8, "firstOrderAt", "(I)I"⟩
abbrev cX8_leastNext : ByteArray := prog_10_method_11_code
def yX8_leastNext : MethodName := ⟨RX8, "leastNext", "(I)I"⟩
def RX9 : String := "PinHouse$Rows"
def TX9 : u_T := fun k => match k with
  | _ => ("", "", "", false)
def tyX9 : Nat → FieldType := fun k => match k with
  | _ => .int
abbrev wsX90 : List Cond := u_ws RX9 TX9 0
theorem nmX9 : ∀ a, a < 0 → ∀ b, b < 0 → a ≠ b → (TX9 a).2.1 ≠ (TX9 b).2.1 := by decide +kernel
theorem tyX9_ok : ∀ k, k < 0 → parseFieldDescriptor (TX9 k).2.2.1 = some (tyX9 k) := by decide +kernel
abbrev cX9_isRow : ByteArray := prog_11_method_2_code
def yX9_isRow : MethodName := ⟨RX9, "isRow", "(I)Z"⟩
abbrev cX9_canBeKey : ByteArray := prog_11_method_3_code
def yX9_canBeKey : MethodName := ⟨RX9, "canBeKey", "(II)Z"⟩
abbrev cX9_sumOfDepths : ByteArray := prog_11_method_4_code
def yX9_sumOfDepths : MethodName := ⟨RX9, "sumOfDepths", "(I)I"⟩
abbrev cX9_lockWeight : ByteArray := prog_11_method_5_code
def yX9_lockWeight : MethodName := ⟨RX9, "lockWeight", "(II)I"⟩
abbrev cX9_lossOf : ByteArray := prog_11_method_6_code
def yX9_lossOf : MethodName := ⟨RX9, "lossOf", "(II)I"⟩
def RX10 : String := "PinHouse$WalkSearch"
def TX10 : u_T := fun k => match k with
  | 0 => ("PinHouse$WalkSearch", "openers", "[I", true)
  | 1 => ("PinHouse$WalkSearch", "keysIn", "[I", true)
  | 2 => ("PinHouse$WalkSearch", "queue", "[I", true)
  | 3 => ("PinHouse$WalkSearch", "seen", "[Z", true)
  | 4 => ("PinHouse$WalkSearch", "carried", "I", false)
  | _ => ("PinHouse$WalkSearch", "queued", "I", false)
def tyX10 : Nat → FieldType := fun k => match k with
  | 0 => .array .int
  | 1 => .array .int
  | 2 => .array .int
  | 3 => .array .boolean
  | 4 => .int
  | _ => .int
abbrev wsX100 : List Cond := u_ws RX10 TX10 6
theorem nmX10 : ∀ a, a < 6 → ∀ b, b < 6 → a ≠ b → (TX10 a).2.1 ≠ (TX10 b).2.1 := by decide +kernel
theorem tyX10_ok : ∀ k, k < 6 → parseFieldDescriptor (TX10 k).2.2.1 = some (tyX10 k) := by decide +kernel
abbrev cX10_init : ByteArray := prog_12_method_1_code
def yX10_init : MethodName := ⟨RX10, "<init>", "()V"⟩
abbrev cX10_work : ByteArray := prog_12_method_2_code
def yX10_work : MethodName := ⟨RX10, "work", "(LPinHouse$House;)V"⟩
abbrev cX10_keysAfter : ByteArray := prog_12_method_3_code
def yX10_keysAfter : MethodName := ⟨RX10, "keysAfter", "(I)I"⟩
abbrev cX10_roomsInReach : ByteArray := prog_12_method_4_code
def yX10_roomsInReach : MethodName := ⟨RX10, "roomsInReach", "(LPinHouse$House;)I"⟩
abbrev cX10_roomsBeyond : ByteArray := prog_12_method_5_code
def yX10_roomsBeyond : MethodName := ⟨RX10, "roomsBeyond", "(LPinHouse$House;I)I"⟩
abbrev cX10_fewestDoors : ByteArray := prog_12_method_6_code
def yX10_fewestDoors : MethodName := ⟨RX10, "fewestDoors", "(LPinHouse$House;I)I"⟩
abbrev cX10_enqueueBeyond : ByteArray := prog_12_method_7_code
def yX10_enqueueBeyond : MethodName := ⟨RX10, "enqueueBeyond", "(LPinHouse$House;I)V"⟩
abbrev cX10_enqueue : ByteArray := prog_12_method_8_code
def yX10_enqueue : MethodName := ⟨RX10, "enqueue", "(II)V"⟩
def RX11 : String := "PinHouse"
def TX11 : u_T := fun k => match k with
  | 0 => ("PinHouse", "now", "LPinHouse$House;", true)
  | 1 => ("PinHouse", "before", "LPinHouse$House;", false)
  | 2 => ("PinHouse", "history", "LPinHouse$History;", true)
  | 3 => ("PinHouse", "slots", "[LPinHouse$House;", true)
  | 4 => ("PinHouse", "saved", "[Z", true)
  | 5 => ("PinHouse", "pad", "LPinHouse$Pad;", true)
  | 6 => ("PinHouse", "keySearch", "LPinHouse$KeySearch;", true)
  | 7 => ("PinHouse", "walkSearch", "LPinHouse$WalkSearch;", true)
  | _ => ("PinHouse", "planSearch", "LPinHouse$PlanSearch;", true)
def tyX11 : Nat → FieldType := fun k => match k with
  | 0 => .object "PinHouse$House"
  | 1 => .object "PinHouse$House"
  | 2 => .object "PinHouse$History"
  | 3 => .array (.object "PinHouse$House")
  | 4 => .array .boolean
  | 5 => .object "PinHouse$Pad"
  | 6 => .object "PinHouse$KeySearch"
  | 7 => .object "PinHouse$WalkSearch"
  | _ => .object "PinHouse$PlanSearch"
abbrev wsX110 : List Cond := u_ws RX11 TX11 9
theorem nmX11 : ∀ a, a < 9 → ∀ b, b < 9 → a ≠ b → (TX11 a).2.1 ≠ (TX11 b).2.1 := by decide +kernel
theorem tyX11_ok : ∀ k, k < 9 → parseFieldDescriptor (TX11 k).2.2.1 = some (tyX11 k) := by decide +kernel
abbrev cX11_init : ByteArray := prog_1_method_1_code
def yX11_init : MethodName := ⟨RX11, "<init>", "()V"⟩
abbrev cX11_set : ByteArray := prog_1_method_2_code
def yX11_set : MethodName := ⟨RX11, "set", "(II)I"⟩
abbrev cX11_brass : ByteArray := prog_1_method_3_code
def yX11_brass : MethodName := ⟨RX11, "brass", "(I)I"⟩
abbrev cX11_door : ByteArray := prog_1_method_4_code
def yX11_door : MethodName := ⟨RX11, "door", "(IIII)I"⟩
abbrev cX11_cut : ByteArray := prog_1_method_5_code
def yX11_cut : MethodName := ⟨RX11, "cut", "(III)I"⟩
abbrev cX11_key : ByteArray := prog_1_method_6_code
def yX11_key : MethodName := ⟨RX11, "key", "(II)I"⟩
abbrev cX11_melt : ByteArray := prog_1_method_7_code
def yX11_melt : MethodName := ⟨RX11, "melt", "(I)I"⟩
abbrev cX11_take : ByteArray := prog_1_method_8_code
def yX11_take : MethodName := ⟨RX11, "take", "(I)I"⟩
abbrev cX11_putDown : ByteArray := prog_1_method_9_code
def yX11_putDown : MethodName := ⟨RX11, "putDown", "(I)I"⟩
abbrev cX11_go : ByteArray := prog_1_method_10_code
def yX11_go : MethodName := ⟨RX11, "go", "(I)I"⟩
abbrev cX11_plan : ByteArray := prog_1_method_11_code
def yX11_plan : MethodName := ⟨RX11, "plan", "(III)I"⟩
abbrev cX11_dropPlan : ByteArray := prog_1_method_12_code
def yX11_dropPlan : MethodName := ⟨RX11, "dropPlan", "()I"⟩
abbrev cX11_carryPlan : ByteArray := prog_1_method_13_code
def yX11_carryPlan : MethodName := ⟨RX11, "carryPlan", "()I"⟩
abbrev cX11_ofDoor : ByteArray := prog_1_method_14_code
def yX11_ofDoor : MethodName := ⟨RX11, "ofDoor", "(II)I"⟩
abbrev cX11_ofKey : ByteArray := prog_1_method_15_code
def yX11_ofKey : MethodName := ⟨RX11, "ofKey", "(II)I"⟩
abbrev cX11_count : ByteArray := prog_1_method_16_code
def yX11_count : MethodName := ⟨RX11, "count", "(I)I"⟩
abbrev cX11_opens : ByteArray := prog_1_method_17_code
def yX11_opens : MethodName := ⟨RX11, "opens", "(II)I"⟩
abbrev cX11_chanceKeys : ByteArray := prog_1_method_18_code
def yX11_chanceKeys : MethodName := ⟨RX11, "chanceKeys", "(I)I"⟩
abbrev cX11_justFor : ByteArray := prog_1_method_19_code
def yX11_justFor : MethodName := ⟨RX11, "justFor", "(I)I"⟩
abbrev cX11_reach : ByteArray := prog_1_method_20_code
def yX11_reach : MethodName := ⟨RX11, "reach", "()I"⟩
abbrev cX11_doorsTo : ByteArray := prog_1_method_21_code
def yX11_doorsTo : MethodName := ⟨RX11, "doorsTo", "(I)I"⟩
abbrev cX11_planOrder : ByteArray := prog_1_method_22_code
def yX11_planOrder : MethodName := ⟨RX11, "planOrder", "(I)I"⟩
abbrev cX11_planOrders : ByteArray := prog_1_method_23_code
def yX11_planOrders : MethodName := ⟨RX11, "planOrders", "()I"⟩
abbrev cX11_mustBeLast : ByteArray := prog_1_method_24_code
def yX11_mustBeLast : MethodName := ⟨RX11, "mustBeLast", "()I"⟩
abbrev cX11_brassForPlan : ByteArray := prog_1_method_25_code
def yX11_brassForPlan : MethodName := ⟨RX11, "brassForPlan", "()I"⟩
abbrev cX11_put : ByteArray := prog_1_method_26_code
def yX11_put : MethodName := ⟨RX11, "put", "(J)I"⟩
abbrev cX11_wipe : ByteArray := prog_1_method_27_code
def yX11_wipe : MethodName := ⟨RX11, "wipe", "()I"⟩
abbrev cX11_fault : ByteArray := prog_1_method_28_code
def yX11_fault : MethodName := ⟨RX11, "fault", "()I"⟩
abbrev cX11_carryOut : ByteArray := prog_1_method_29_code
def yX11_carryOut : MethodName := ⟨RX11, "carryOut", "()I"⟩
abbrev cX11_undo : ByteArray := prog_1_method_30_code
def yX11_undo : MethodName := ⟨RX11, "undo", "()I"⟩
abbrev cX11_save : ByteArray := prog_1_method_31_code
def yX11_save : MethodName := ⟨RX11, "save", "(I)I"⟩
abbrev cX11_restore : ByteArray := prog_1_method_32_code
def yX11_restore : MethodName := ⟨RX11, "restore", "(I)I"⟩
abbrev cX11_isSlot : ByteArray := prog_1_method_33_code
def yX11_isSlot : MethodName := ⟨RX11, "isSlot", "(I)Z"⟩
abbrev cX11_recorded : ByteArray := prog_1_method_34_code
def yX11_recorded : MethodName := ⟨RX11, "recorded", "(I)I"⟩
def RX12 : String := "PinHouseModel"
def TX12 : u_T := fun k => match k with
  | 0 => ("PinHouseModel", "now", "[I", true)
  | 1 => ("PinHouseModel", "history", "[I", true)
  | 2 => ("PinHouseModel", "undos", "I", false)
  | 3 => ("PinHouseModel", "saved", "[I", true)
  | 4 => ("PinHouseModel", "isSaved", "[Z", true)
  | 5 => ("PinHouseModel", "pad", "[I", true)
  | 6 => ("PinHouseModel", "signs", "I", false)
  | 7 => ("PinHouseModel", "isInText", "Z", false)
  | 8 => ("PinHouseModel", "order", "[I", true)
  | 9 => ("PinHouseModel", "firstOrder", "[I", true)
  | 10 => ("PinHouseModel", "orders", "I", false)
  | 11 => ("PinHouseModel", "lasts", "I", false)
  | 12 => ("PinHouseModel", "lacking", "I", false)
  | 13 => ("PinHouseModel", "far", "[I", true)
  | 14 => ("PinHouseModel", "queue", "[I", true)
  | 15 => ("PinHouseModel", "texts", "[I", true)
  | 16 => ("PinHouseModel", "many", "I", false)
  | 17 => ("PinHouseModel", "place", "I", false)
  | _ => ("PinHouseModel", "isWrong", "Z", false)
def tyX12 : Nat → FieldType := fun k => match k with
  | 0 => .array .int
  | 1 => .array .int
  | 2 => .int
  | 3 => .array .int
  | 4 => .array .boolean
  | 5 => .array .int
  | 6 => .int
  | 7 => .boolean
  | 8 => .array .int
  | 9 => .array .int
  | 10 => .int
  | 11 => .int
  | 12 => .int
  | 13 => .array .int
  | 14 => .array .int
  | 15 => .array .int
  | 16 => .int
  | 17 => .int
  | _ => .boolean
abbrev wsX120 : List Cond := u_ws RX12 TX12 19
theorem nmX12 : ∀ a, a < 19 → ∀ b, b < 19 → a ≠ b → (TX12 a).2.1 ≠ (TX12 b).2.1 := by decide +kernel
theorem tyX12_ok : ∀ k, k < 19 → parseFieldDescriptor (TX12 k).2.2.1 = some (tyX12 k) := by decide +kernel
abbrev cX12_init : ByteArray := prog_14_method_1_code
def yX12_init : MethodName := ⟨RX12, "<init>", "()V"⟩
abbrev cX12_in : ByteArray := prog_14_method_2_code
def yX12_in : MethodName := ⟨RX12, "in", "(III)Z"⟩
abbrev cX12_isRow : ByteArray := prog_14_method_3_code
def yX12_isRow : MethodName := ⟨RX12, "isRow", "(I)Z"⟩
abbrev cX12_depth : ByteArray := prog_14_method_4_code
def yX12_depth : MethodName := ⟨RX12, "depth", "(II)I"⟩
abbrev cX12_record : ByteArray := prog_14_method_5_code
def yX12_record : MethodName := ⟨RX12, "record", "()V"⟩
abbrev cX12_set : ByteArray := prog_14_method_6_code
def yX12_set : MethodName := ⟨RX12, "set", "(II)I"⟩
abbrev cX12_brass : ByteArray := prog_14_method_7_code
def yX12_brass : MethodName := ⟨RX12, "brass", "(I)I"⟩
abbrev cX12_weightOf : ByteArray := prog_14_method_8_code
def yX12_weightOf : MethodName := ⟨RX12, "weightOf", "(II)I"⟩
abbrev cX12_isDoor : ByteArray := prog_14_method_9_code
def yX12_isDoor : MethodName := ⟨RX12, "isDoor", "(I)Z"⟩
abbrev cX12_ofLock : ByteArray := prog_14_method_10_code
def yX12_ofLock : MethodName := ⟨RX12, "ofLock", "(II)I"⟩
abbrev cX12_door : ByteArray := prog_14_method_11_code
def yX12_door : MethodName := ⟨RX12, "door", "(IIII)I"⟩
abbrev cX12_lossOf : ByteArray := prog_14_method_12_code
def yX12_lossOf : MethodName := ⟨RX12, "lossOf", "(I)I"⟩
abbrev cX12_lockWeight : ByteArray := prog_14_method_13_code
def yX12_lockWeight : MethodName := ⟨RX12, "lockWeight", "(I)I"⟩
abbrev cX12_givesOf : ByteArray := prog_14_method_14_code
def yX12_givesOf : MethodName := ⟨RX12, "givesOf", "(I)I"⟩
abbrev cX12_recut : ByteArray := prog_14_method_15_code
def yX12_recut : MethodName := ⟨RX12, "recut", "(III)V"⟩
abbrev cX12_cut : ByteArray := prog_14_method_16_code
def yX12_cut : MethodName := ⟨RX12, "cut", "(III)I"⟩
abbrev cX12_canBeKey : ByteArray := prog_14_method_17_code
def yX12_canBeKey : MethodName := ⟨RX12, "canBeKey", "(I)Z"⟩
abbrev cX12_depths : ByteArray := prog_14_method_18_code
def yX12_depths : MethodName := ⟨RX12, "depths", "(I)I"⟩
abbrev cX12_isKey : ByteArray := prog_14_method_19_code
def yX12_isKey : MethodName := ⟨RX12, "isKey", "(I)Z"⟩
abbrev cX12_cutsOf : ByteArray := prog_14_method_20_code
def yX12_cutsOf : MethodName := ⟨RX12, "cutsOf", "(I)I"⟩
abbrev cX12_whereIs : ByteArray := prog_14_method_21_code
def yX12_whereIs : MethodName := ⟨RX12, "whereIs", "(I)I"⟩
abbrev cX12_keyWeight : ByteArray := prog_14_method_22_code
def yX12_keyWeight : MethodName := ⟨RX12, "keyWeight", "(I)I"⟩
abbrev cX12_key : ByteArray := prog_14_method_23_code
def yX12_key : MethodName := ⟨RX12, "key", "(II)I"⟩
abbrev cX12_melt : ByteArray := prog_14_method_24_code
def yX12_melt : MethodName := ⟨RX12, "melt", "(I)I"⟩
abbrev cX12_keysIn : ByteArray := prog_14_method_25_code
def yX12_keysIn : MethodName := ⟨RX12, "keysIn", "(I)I"⟩
abbrev cX12_bring : ByteArray := prog_14_method_26_code
def yX12_bring : MethodName := ⟨RX12, "bring", "(III)I"⟩
abbrev cX12_take : ByteArray := prog_14_method_27_code
def yX12_take : MethodName := ⟨RX12, "take", "(I)I"⟩
abbrev cX12_putDown : ByteArray := prog_14_method_28_code
def yX12_putDown : MethodName := ⟨RX12, "putDown", "(I)I"⟩
abbrev cX12_fits : ByteArray := prog_14_method_29_code
def yX12_fits : MethodName := ⟨RX12, "fits", "(II)Z"⟩
abbrev cX12_isOpenBy : ByteArray := prog_14_method_30_code
def yX12_isOpenBy : MethodName := ⟨RX12, "isOpenBy", "(II)Z"⟩
abbrev cX12_behind : ByteArray := prog_14_method_31_code
def yX12_behind : MethodName := ⟨RX12, "behind", "(II)I"⟩
abbrev cX12_go : ByteArray := prog_14_method_32_code
def yX12_go : MethodName := ⟨RX12, "go", "(I)I"⟩
abbrev cX12_placeOf : ByteArray := prog_14_method_33_code
def yX12_placeOf : MethodName := ⟨RX12, "placeOf", "(I)I"⟩
abbrev cX12_plan : ByteArray := prog_14_method_34_code
def yX12_plan : MethodName := ⟨RX12, "plan", "(III)I"⟩
abbrev cX12_dropPlan : ByteArray := prog_14_method_35_code
def yX12_dropPlan : MethodName := ⟨RX12, "dropPlan", "()I"⟩
abbrev cX12_lacks : ByteArray := prog_14_method_36_code
def yX12_lacks : MethodName := ⟨RX12, "lacks", "()I"⟩
abbrev cX12_nextOrder : ByteArray := prog_14_method_37_code
def yX12_nextOrder : MethodName := ⟨RX12, "nextOrder", "()Z"⟩
abbrev cX12_layOrders : ByteArray := prog_14_method_38_code
def yX12_layOrders : MethodName := ⟨RX12, "layOrders", "()V"⟩
abbrev cX12_carryPlan : ByteArray := prog_14_method_39_code
def yX12_carryPlan : MethodName := ⟨RX12, "carryPlan", "()I"⟩
abbrev cX12_keysFor : ByteArray := prog_14_method_40_code
def yX12_keysFor : MethodName := ⟨RX12, "keysFor", "(I)I"⟩
abbrev cX12_ofDoor : ByteArray := prog_14_method_41_code
def yX12_ofDoor : MethodName := ⟨RX12, "ofDoor", "(II)I"⟩
abbrev cX12_doorsOf : ByteArray := prog_14_method_42_code
def yX12_doorsOf : MethodName := ⟨RX12, "doorsOf", "(I)I"⟩
abbrev cX12_ofKey : ByteArray := prog_14_method_43_code
def yX12_ofKey : MethodName := ⟨RX12, "ofKey", "(II)I"⟩
abbrev cX12_inLocks : ByteArray := prog_14_method_44_code
def yX12_inLocks : MethodName := ⟨RX12, "inLocks", "()I"⟩
abbrev cX12_inKeys : ByteArray := prog_14_method_45_code
def yX12_inKeys : MethodName := ⟨RX12, "inKeys", "()I"⟩
abbrev cX12_count : ByteArray := prog_14_method_46_code
def yX12_count : MethodName := ⟨RX12, "count", "(I)I"⟩
abbrev cX12_opens : ByteArray := prog_14_method_47_code
def yX12_opens : MethodName := ⟨RX12, "opens", "(II)I"⟩
abbrev cX12_areDoors : ByteArray := prog_14_method_48_code
def yX12_areDoors : MethodName := ⟨RX12, "areDoors", "(I)Z"⟩
abbrev cX12_openedBy : ByteArray := prog_14_method_49_code
def yX12_openedBy : MethodName := ⟨RX12, "openedBy", "(I)I"⟩
abbrev cX12_chanceKeys : ByteArray := prog_14_method_50_code
def yX12_chanceKeys : MethodName := ⟨RX12, "chanceKeys", "(I)I"⟩
abbrev cX12_justFor : ByteArray := prog_14_method_51_code
def yX12_justFor : MethodName := ⟨RX12, "justFor", "(I)I"⟩
abbrev cX12_keysOf : ByteArray := prog_14_method_52_code
def yX12_keysOf : MethodName := ⟨RX12, "keysOf", "(I)I"⟩
abbrev cX12_reach : ByteArray := prog_14_method_53_code
def yX12_reach : MethodName := ⟨RX12, "reach", "()I"⟩
abbrev cX12_doorsTo : ByteArray := prog_14_method_54_code
def yX12_doorsTo : MethodName := ⟨RX12, "doorsTo", "(I)I"⟩
abbrev cX12_planOrder : ByteArray := prog_14_method_55_code
def yX12_planOrder : MethodName := ⟨RX12, "planOrder", "(I)I"⟩
abbrev cX12_planOrders : ByteArray := prog_14_method_56_code
def yX12_planOrders : MethodName := ⟨RX12, "planOrders", "()I"⟩
abbrev cX12_mustBeLast : ByteArray := prog_14_method_57_code
def yX12_mustBeLast : MethodName := ⟨RX12, "mustBeLast", "()I"⟩
abbrev cX12_brassForPlan : ByteArray := prog_14_method_58_code
def yX12_brassForPlan : MethodName := ⟨RX12, "brassForPlan", "()I"⟩
abbrev cX12_sign : ByteArray := prog_14_method_59_code
def yX12_sign : MethodName := ⟨RX12, "sign", "()I"⟩
abbrev cX12_one : ByteArray := prog_14_method_60_code
def yX12_one : MethodName := ⟨RX12, "one", "(II)I"⟩
abbrev cX12_number : ByteArray := prog_14_method_61_code
def yX12_number : MethodName := ⟨RX12, "number", "()I"⟩
abbrev cX12_cuts : ByteArray := prog_14_method_62_code
def yX12_cuts : MethodName := ⟨RX12, "cuts", "()I"⟩
abbrev cX12_between : ByteArray := prog_14_method_63_code
def yX12_between : MethodName := ⟨RX12, "between", "(I)V"⟩
abbrev cX12_readOne : ByteArray := prog_14_method_64_code
def yX12_readOne : MethodName := ⟨RX12, "readOne", "()V"⟩
abbrev cX12_faultOf : ByteArray := prog_14_method_65_code
def yX12_faultOf : MethodName := ⟨RX12, "faultOf", "()I"⟩
abbrev cX12_put : ByteArray := prog_14_method_66_code
def yX12_put : MethodName := ⟨RX12, "put", "(J)I"⟩
abbrev cX12_wipe : ByteArray := prog_14_method_67_code
def yX12_wipe : MethodName := ⟨RX12, "wipe", "()I"⟩
abbrev cX12_fault : ByteArray := prog_14_method_68_code
def yX12_fault : MethodName := ⟨RX12, "fault", "()I"⟩
abbrev cX12_carry : ByteArray := prog_14_method_69_code
def yX12_carry : MethodName := ⟨RX12, "carry", "(I)I"⟩
abbrev cX12_carryOut : ByteArray := prog_14_method_70_code
def yX12_carryOut : MethodName := ⟨RX12, "carryOut", "()I"⟩
abbrev cX12_undo : ByteArray := prog_14_method_71_code
def yX12_undo : MethodName := ⟨RX12, "undo", "()I"⟩
abbrev cX12_save : ByteArray := prog_14_method_72_code
def yX12_save : MethodName := ⟨RX12, "save", "(I)I"⟩
abbrev cX12_restore : ByteArray := prog_14_method_73_code
def yX12_restore : MethodName := ⟨RX12, "restore", "(I)I"⟩
def RL : String := "PinHouseLaw"
abbrev cL_law : ByteArray := code
def yL_law : MethodName := ⟨RL, "law", "([I)Z"⟩
theorem dX0_init_0 : decode cX0_init 0 = .ok (.aload_n 0, 1) := by decide +kernel
theorem dX0_init_1 : decode cX0_init 1 = .ok (.invokespecial 3, 3) := by decide +kernel
theorem dX0_init_4 : decode cX0_init 4 = .ok (.return_, 1) := by decide +kernel
theorem dX0_copyFrom_0 : decode cX0_copyFrom 0 = .ok (.aload_n 0, 1) := by decide +kernel
theorem dX0_copyFrom_1 : decode cX0_copyFrom 1 = .ok (.aload_n 1, 1) := by decide +kernel
theorem dX0_copyFrom_2 : decode cX0_copyFrom 2 = .ok (.getfield 9, 3) := by decide +kernel
theorem dX0_copyFrom_5 : decode cX0_copyFrom 5 = .ok (.putfield 9, 3) := by decide +kernel
theorem dX0_copyFrom_8 : decode cX0_copyFrom 8 = .ok (.aload_n 0, 1) := by decide +kernel
theorem dX0_copyFrom_9 : decode cX0_copyFrom 9 = .ok (.aload_n 1, 1) := by decide +kernel
theorem dX0_copyFrom_10 : decode cX0_copyFrom 10 = .ok (.getfield 15, 3) := by decide +kernel
theorem dX0_copyFrom_13 : decode cX0_copyFrom 13 = .ok (.putfield 15, 3) := by decide +kernel
theorem dX0_copyFrom_16 : decode cX0_copyFrom 16 = .ok (.aload_n 0, 1) := by decide +kernel
theorem dX0_copyFrom_17 : decode cX0_copyFrom 17 = .ok (.aload_n 1, 1) := by decide +kernel
theorem dX0_copyFrom_18 : decode cX0_copyFrom 18 = .ok (.getfield 18, 3) := by decide +kernel
theorem dX0_copyFrom_21 : decode cX0_copyFrom 21 = .ok (.putfield 18, 3) := by decide +kernel
theorem dX0_copyFrom_24 : decode cX0_copyFrom 24 = .ok (.aload_n 0, 1) := by decide +kernel
theorem dX0_copyFrom_25 : decode cX0_copyFrom 25 = .ok (.aload_n 1, 1) := by decide +kernel
theorem dX0_copyFrom_26 : decode cX0_copyFrom 26 = .ok (.getfield 21, 3) := by decide +kernel
theorem dX0_copyFrom_29 : decode cX0_copyFrom 29 = .ok (.putfield 21, 3) := by decide +kernel
theorem dX0_copyFrom_32 : decode cX0_copyFrom 32 = .ok (.aload_n 0, 1) := by decide +kernel
theorem dX0_copyFrom_33 : decode cX0_copyFrom 33 = .ok (.aload_n 1, 1) := by decide +kernel
theorem dX0_copyFrom_34 : decode cX0_copyFrom 34 = .ok (.getfield 24, 3) := by decide +kernel
theorem dX0_copyFrom_37 : decode cX0_copyFrom 37 = .ok (.putfield 24, 3) := by decide +kernel
theorem dX0_copyFrom_40 : decode cX0_copyFrom 40 = .ok (.return_, 1) := by decide +kernel
theorem dX0_build_0 : decode cX0_build 0 = .ok (.aload_n 0, 1) := by decide +kernel
theorem dX0_build_1 : decode cX0_build 1 = .ok (.iload_n 1, 1) := by decide +kernel
theorem dX0_build_2 : decode cX0_build 2 = .ok (.putfield 9, 3) := by decide +kernel
theorem dX0_build_5 : decode cX0_build 5 = .ok (.aload_n 0, 1) := by decide +kernel
theorem dX0_build_6 : decode cX0_build 6 = .ok (.iload_n 2, 1) := by decide +kernel
theorem dX0_build_7 : decode cX0_build 7 = .ok (.putfield 15, 3) := by decide +kernel
theorem dX0_build_10 : decode cX0_build 10 = .ok (.aload_n 0, 1) := by decide +kernel
theorem dX0_build_11 : decode cX0_build 11 = .ok (.iload_n 3, 1) := by decide +kernel
theorem dX0_build_12 : decode cX0_build 12 = .ok (.putfield 18, 3) := by decide +kernel
theorem dX0_build_15 : decode cX0_build 15 = .ok (.aload_n 0, 1) := by decide +kernel
theorem dX0_build_16 : decode cX0_build 16 = .ok (.iload 4, 2) := by decide +kernel
theorem dX0_build_18 : decode cX0_build 18 = .ok (.putfield 21, 3) := by decide +kernel
theorem dX0_build_21 : decode cX0_build 21 = .ok (.aload_n 0, 1) := by decide +kernel
theorem dX0_build_22 : decode cX0_build 22 = .ok (.iconst 0, 1) := by decide +kernel
theorem dX0_build_23 : decode cX0_build 23 = .ok (.putfield 24, 3) := by decide +kernel
theorem dX0_build_26 : decode cX0_build 26 = .ok (.return_, 1) := by decide +kernel
theorem dX0_weight_0 : decode cX0_weight 0 = .ok (.aload_n 0, 1) := by decide +kernel
theorem dX0_weight_1 : decode cX0_weight 1 = .ok (.getfield 18, 3) := by decide +kernel
theorem dX0_weight_4 : decode cX0_weight 4 = .ok (.aload_n 0, 1) := by decide +kernel
theorem dX0_weight_5 : decode cX0_weight 5 = .ok (.getfield 21, 3) := by decide +kernel
theorem dX0_weight_8 : decode cX0_weight 8 = .ok (.invokestatic 27, 3) := by decide +kernel
theorem dX0_weight_11 : decode cX0_weight 11 = .ok (.ireturn, 1) := by decide +kernel
theorem dX0_isOpenedBy_0 : decode cX0_isOpenedBy 0 = .ok (.iload_n 1, 1) := by decide +kernel
theorem dX0_isOpenedBy_1 : decode cX0_isOpenedBy 1 = .ok (.istore_n 2, 1) := by decide +kernel
theorem dX0_isOpenedBy_2 : decode cX0_isOpenedBy 2 = .ok (.aload_n 0, 1) := by decide +kernel
theorem dX0_isOpenedBy_3 : decode cX0_isOpenedBy 3 = .ok (.getfield 18, 3) := by decide +kernel
theorem dX0_isOpenedBy_6 : decode cX0_isOpenedBy 6 = .ok (.istore_n 3, 1) := by decide +kernel
theorem dX0_isOpenedBy_7 : decode cX0_isOpenedBy 7 = .ok (.aload_n 0, 1) := by decide +kernel
theorem dX0_isOpenedBy_8 : decode cX0_isOpenedBy 8 = .ok (.getfield 21, 3) := by decide +kernel
theorem dX0_isOpenedBy_11 : decode cX0_isOpenedBy 11 = .ok (.istore 4, 2) := by decide +kernel
theorem dX0_isOpenedBy_13 : decode cX0_isOpenedBy 13 = .ok (.iconst 0, 1) := by decide +kernel
theorem dX0_isOpenedBy_14 : decode cX0_isOpenedBy 14 = .ok (.istore 5, 2) := by decide +kernel
theorem dX0_isOpenedBy_16 : decode cX0_isOpenedBy 16 = .ok (.iload 5, 2) := by decide +kernel
theorem dX0_isOpenedBy_18 : decode cX0_isOpenedBy 18 = .ok (.iconst 4, 1) := by decide +kernel
theorem dX0_isOpenedBy_19 : decode cX0_isOpenedBy 19 = .ok (.if_icmp .ge 53, 3) := by decide +kernel
theorem dX0_isOpenedBy_22 : decode cX0_isOpenedBy 22 = .ok (.iload_n 2, 1) := by decide +kernel
theorem dX0_isOpenedBy_23 : decode cX0_isOpenedBy 23 = .ok (.bipush 10, 2) := by decide +kernel
theorem dX0_isOpenedBy_25 : decode cX0_isOpenedBy 25 = .ok (.irem, 1) := by decide +kernel
theorem dX0_isOpenedBy_26 : decode cX0_isOpenedBy 26 = .ok (.istore 6, 2) := by decide +kernel
theorem dX0_isOpenedBy_28 : decode cX0_isOpenedBy 28 = .ok (.iload 6, 2) := by decide +kernel
theorem dX0_isOpenedBy_30 : decode cX0_isOpenedBy 30 = .ok (.iload_n 3, 1) := by decide +kernel
theorem dX0_isOpenedBy_31 : decode cX0_isOpenedBy 31 = .ok (.bipush 10, 2) := by decide +kernel
theorem dX0_isOpenedBy_33 : decode cX0_isOpenedBy 33 = .ok (.irem, 1) := by decide +kernel
theorem dX0_isOpenedBy_34 : decode cX0_isOpenedBy 34 = .ok (.if_icmp .eq 15, 3) := by decide +kernel
theorem dX0_isOpenedBy_37 : decode cX0_isOpenedBy 37 = .ok (.iload 6, 2) := by decide +kernel
theorem dX0_isOpenedBy_39 : decode cX0_isOpenedBy 39 = .ok (.iload 4, 2) := by decide +kernel
theorem dX0_isOpenedBy_41 : decode cX0_isOpenedBy 41 = .ok (.bipush 10, 2) := by decide +kernel
theorem dX0_isOpenedBy_43 : decode cX0_isOpenedBy 43 = .ok (.irem, 1) := by decide +kernel
theorem dX0_isOpenedBy_44 : decode cX0_isOpenedBy 44 = .ok (.if_icmp .eq 5, 3) := by decide +kernel
theorem dX0_isOpenedBy_47 : decode cX0_isOpenedBy 47 = .ok (.iconst 0, 1) := by decide +kernel
theorem dX0_isOpenedBy_48 : decode cX0_isOpenedBy 48 = .ok (.ireturn, 1) := by decide +kernel
theorem dX0_isOpenedBy_49 : decode cX0_isOpenedBy 49 = .ok (.iload_n 2, 1) := by decide +kernel
theorem dX0_isOpenedBy_50 : decode cX0_isOpenedBy 50 = .ok (.bipush 10, 2) := by decide +kernel
theorem dX0_isOpenedBy_52 : decode cX0_isOpenedBy 52 = .ok (.idiv, 1) := by decide +kernel
theorem dX0_isOpenedBy_53 : decode cX0_isOpenedBy 53 = .ok (.istore_n 2, 1) := by decide +kernel
theorem dX0_isOpenedBy_54 : decode cX0_isOpenedBy 54 = .ok (.iload_n 3, 1) := by decide +kernel
theorem dX0_isOpenedBy_55 : decode cX0_isOpenedBy 55 = .ok (.bipush 10, 2) := by decide +kernel
theorem dX0_isOpenedBy_57 : decode cX0_isOpenedBy 57 = .ok (.idiv, 1) := by decide +kernel
theorem dX0_isOpenedBy_58 : decode cX0_isOpenedBy 58 = .ok (.istore_n 3, 1) := by decide +kernel
theorem dX0_isOpenedBy_59 : decode cX0_isOpenedBy 59 = .ok (.iload 4, 2) := by decide +kernel
theorem dX0_isOpenedBy_61 : decode cX0_isOpenedBy 61 = .ok (.bipush 10, 2) := by decide +kernel
theorem dX0_isOpenedBy_63 : decode cX0_isOpenedBy 63 = .ok (.idiv, 1) := by decide +kernel
theorem dX0_isOpenedBy_64 : decode cX0_isOpenedBy 64 = .ok (.istore 4, 2) := by decide +kernel
theorem dX0_isOpenedBy_66 : decode cX0_isOpenedBy 66 = .ok (.iinc 5 1, 3) := by decide +kernel
theorem dX0_isOpenedBy_69 : decode cX0_isOpenedBy 69 = .ok (.goto (-53), 3) := by decide +kernel
theorem dX0_isOpenedBy_72 : decode cX0_isOpenedBy 72 = .ok (.iconst 1, 1) := by decide +kernel
theorem dX0_isOpenedBy_73 : decode cX0_isOpenedBy 73 = .ok (.ireturn, 1) := by decide +kernel
theorem dX0_beyond_0 : decode cX0_beyond 0 = .ok (.iload_n 1, 1) := by decide +kernel
theorem dX0_beyond_1 : decode cX0_beyond 1 = .ok (.aload_n 0, 1) := by decide +kernel
theorem dX0_beyond_2 : decode cX0_beyond 2 = .ok (.getfield 9, 3) := by decide +kernel
theorem dX0_beyond_5 : decode cX0_beyond 5 = .ok (.if_icmp .ne 8, 3) := by decide +kernel
theorem dX0_beyond_8 : decode cX0_beyond 8 = .ok (.aload_n 0, 1) := by decide +kernel
theorem dX0_beyond_9 : decode cX0_beyond 9 = .ok (.getfield 15, 3) := by decide +kernel
theorem dX0_beyond_12 : decode cX0_beyond 12 = .ok (.ireturn, 1) := by decide +kernel
theorem dX0_beyond_13 : decode cX0_beyond 13 = .ok (.iload_n 1, 1) := by decide +kernel
theorem dX0_beyond_14 : decode cX0_beyond 14 = .ok (.aload_n 0, 1) := by decide +kernel
theorem dX0_beyond_15 : decode cX0_beyond 15 = .ok (.getfield 15, 3) := by decide +kernel
theorem dX0_beyond_18 : decode cX0_beyond 18 = .ok (.if_icmp .ne 10, 3) := by decide +kernel
theorem dX0_beyond_21 : decode cX0_beyond 21 = .ok (.aload_n 0, 1) := by decide +kernel
theorem dX0_beyond_22 : decode cX0_beyond 22 = .ok (.getfield 9, 3) := by decide +kernel
theorem dX0_beyond_25 : decode cX0_beyond 25 = .ok (.goto 5, 3) := by decide +kernel
theorem dX0_beyond_28 : decode cX0_beyond 28 = .ok (.bipush (-6), 2) := by decide +kernel
theorem dX0_beyond_30 : decode cX0_beyond 30 = .ok (.ireturn, 1) := by decide +kernel
theorem dX1_init_0 : decode cX1_init 0 = .ok (.aload_n 0, 1) := by decide +kernel
theorem dX1_init_1 : decode cX1_init 1 = .ok (.invokespecial 3, 3) := by decide +kernel
theorem dX1_init_4 : decode cX1_init 4 = .ok (.aload_n 0, 1) := by decide +kernel
theorem dX1_init_5 : decode cX1_init 5 = .ok (.bipush 6, 2) := by decide +kernel
theorem dX1_init_7 : decode cX1_init 7 = .ok (.anewarray 9, 3) := by decide +kernel
theorem dX1_init_10 : decode cX1_init 10 = .ok (.putfield 11, 3) := by decide +kernel
theorem dX1_init_13 : decode cX1_init 13 = .ok (.iconst 0, 1) := by decide +kernel
theorem dX1_init_14 : decode cX1_init 14 = .ok (.istore_n 1, 1) := by decide +kernel
theorem dX1_init_15 : decode cX1_init 15 = .ok (.iload_n 1, 1) := by decide +kernel
theorem dX1_init_16 : decode cX1_init 16 = .ok (.bipush 6, 2) := by decide +kernel
theorem dX1_init_18 : decode cX1_init 18 = .ok (.if_icmp .ge 22, 3) := by decide +kernel
theorem dX1_init_21 : decode cX1_init 21 = .ok (.aload_n 0, 1) := by decide +kernel
theorem dX1_init_22 : decode cX1_init 22 = .ok (.getfield 11, 3) := by decide +kernel
theorem dX1_init_25 : decode cX1_init 25 = .ok (.iload_n 1, 1) := by decide +kernel
theorem dX1_init_26 : decode cX1_init 26 = .ok (.new 9, 3) := by decide +kernel
theorem dX1_init_29 : decode cX1_init 29 = .ok (.dup, 1) := by decide +kernel
theorem dX1_init_30 : decode cX1_init 30 = .ok (.invokespecial 17, 3) := by decide +kernel
theorem dX1_init_33 : decode cX1_init 33 = .ok (.aastore, 1) := by decide +kernel
theorem dX1_init_34 : decode cX1_init 34 = .ok (.iinc 1 1, 3) := by decide +kernel
theorem dX1_init_37 : decode cX1_init 37 = .ok (.goto (-22), 3) := by decide +kernel
theorem dX1_init_40 : decode cX1_init 40 = .ok (.return_, 1) := by decide +kernel
theorem dX1_keep_0 : decode cX1_keep 0 = .ok (.aload_n 0, 1) := by decide +kernel
theorem dX1_keep_1 : decode cX1_keep 1 = .ok (.getfield 18, 3) := by decide +kernel
theorem dX1_keep_4 : decode cX1_keep 4 = .ok (.bipush 6, 2) := by decide +kernel
theorem dX1_keep_6 : decode cX1_keep 6 = .ok (.if_icmp .ge 36, 3) := by decide +kernel
theorem dX1_keep_9 : decode cX1_keep 9 = .ok (.aload_n 0, 1) := by decide +kernel
theorem dX1_keep_10 : decode cX1_keep 10 = .ok (.getfield 11, 3) := by decide +kernel
theorem dX1_keep_13 : decode cX1_keep 13 = .ok (.aload_n 0, 1) := by decide +kernel
theorem dX1_keep_14 : decode cX1_keep 14 = .ok (.getfield 18, 3) := by decide +kernel
theorem dX1_keep_17 : decode cX1_keep 17 = .ok (.aaload, 1) := by decide +kernel
theorem dX1_keep_18 : decode cX1_keep 18 = .ok (.astore_n 2, 1) := by decide +kernel
theorem dX1_keep_19 : decode cX1_keep 19 = .ok (.aload_n 0, 1) := by decide +kernel
theorem dX1_keep_20 : decode cX1_keep 20 = .ok (.getfield 11, 3) := by decide +kernel
theorem dX1_keep_23 : decode cX1_keep 23 = .ok (.aload_n 0, 1) := by decide +kernel
theorem dX1_keep_24 : decode cX1_keep 24 = .ok (.getfield 18, 3) := by decide +kernel
theorem dX1_keep_27 : decode cX1_keep 27 = .ok (.aload_n 1, 1) := by decide +kernel
theorem dX1_keep_28 : decode cX1_keep 28 = .ok (.aastore, 1) := by decide +kernel
theorem dX1_keep_29 : decode cX1_keep 29 = .ok (.aload_n 0, 1) := by decide +kernel
theorem dX1_keep_30 : decode cX1_keep 30 = .ok (.dup, 1) := by decide +kernel
theorem dX1_keep_31 : decode cX1_keep 31 = .ok (.getfield 18, 3) := by decide +kernel
theorem dX1_keep_34 : decode cX1_keep 34 = .ok (.iconst 1, 1) := by decide +kernel
theorem dX1_keep_35 : decode cX1_keep 35 = .ok (.iadd, 1) := by decide +kernel
theorem dX1_keep_36 : decode cX1_keep 36 = .ok (.putfield 18, 3) := by decide +kernel
theorem dX1_keep_39 : decode cX1_keep 39 = .ok (.goto 45, 3) := by decide +kernel
theorem dX1_keep_42 : decode cX1_keep 42 = .ok (.aload_n 0, 1) := by decide +kernel
theorem dX1_keep_43 : decode cX1_keep 43 = .ok (.getfield 11, 3) := by decide +kernel
theorem dX1_keep_46 : decode cX1_keep 46 = .ok (.iconst 0, 1) := by decide +kernel
theorem dX1_keep_47 : decode cX1_keep 47 = .ok (.aaload, 1) := by decide +kernel
theorem dX1_keep_48 : decode cX1_keep 48 = .ok (.astore_n 2, 1) := by decide +kernel
theorem dX1_keep_49 : decode cX1_keep 49 = .ok (.iconst 1, 1) := by decide +kernel
theorem dX1_keep_50 : decode cX1_keep 50 = .ok (.istore_n 3, 1) := by decide +kernel
theorem dX1_keep_51 : decode cX1_keep 51 = .ok (.iload_n 3, 1) := by decide +kernel
theorem dX1_keep_52 : decode cX1_keep 52 = .ok (.bipush 6, 2) := by decide +kernel
theorem dX1_keep_54 : decode cX1_keep 54 = .ok (.if_icmp .ge 23, 3) := by decide +kernel
theorem dX1_keep_57 : decode cX1_keep 57 = .ok (.aload_n 0, 1) := by decide +kernel
theorem dX1_keep_58 : decode cX1_keep 58 = .ok (.getfield 11, 3) := by decide +kernel
theorem dX1_keep_61 : decode cX1_keep 61 = .ok (.iload_n 3, 1) := by decide +kernel
theorem dX1_keep_62 : decode cX1_keep 62 = .ok (.iconst 1, 1) := by decide +kernel
theorem dX1_keep_63 : decode cX1_keep 63 = .ok (.isub, 1) := by decide +kernel
theorem dX1_keep_64 : decode cX1_keep 64 = .ok (.aload_n 0, 1) := by decide +kernel
theorem dX1_keep_65 : decode cX1_keep 65 = .ok (.getfield 11, 3) := by decide +kernel
theorem dX1_keep_68 : decode cX1_keep 68 = .ok (.iload_n 3, 1) := by decide +kernel
theorem dX1_keep_69 : decode cX1_keep 69 = .ok (.aaload, 1) := by decide +kernel
theorem dX1_keep_70 : decode cX1_keep 70 = .ok (.aastore, 1) := by decide +kernel
theorem dX1_keep_71 : decode cX1_keep 71 = .ok (.iinc 3 1, 3) := by decide +kernel
theorem dX1_keep_74 : decode cX1_keep 74 = .ok (.goto (-23), 3) := by decide +kernel
theorem dX1_keep_77 : decode cX1_keep 77 = .ok (.aload_n 0, 1) := by decide +kernel
theorem dX1_keep_78 : decode cX1_keep 78 = .ok (.getfield 11, 3) := by decide +kernel
theorem dX1_keep_81 : decode cX1_keep 81 = .ok (.iconst 5, 1) := by decide +kernel
theorem dX1_keep_82 : decode cX1_keep 82 = .ok (.aload_n 1, 1) := by decide +kernel
theorem dX1_keep_83 : decode cX1_keep 83 = .ok (.aastore, 1) := by decide +kernel
theorem dX1_keep_84 : decode cX1_keep 84 = .ok (.aload_n 2, 1) := by decide +kernel
theorem dX1_keep_85 : decode cX1_keep 85 = .ok (.areturn, 1) := by decide +kernel
theorem dX1_takeLatest_0 : decode cX1_takeLatest 0 = .ok (.aload_n 0, 1) := by decide +kernel
theorem dX1_takeLatest_1 : decode cX1_takeLatest 1 = .ok (.getfield 18, 3) := by decide +kernel
theorem dX1_takeLatest_4 : decode cX1_takeLatest 4 = .ok (.ifCond .le 13, 3) := by decide +kernel
theorem dX1_takeLatest_7 : decode cX1_takeLatest 7 = .ok (.aload_n 0, 1) := by decide +kernel
theorem dX1_takeLatest_8 : decode cX1_takeLatest 8 = .ok (.dup, 1) := by decide +kernel
theorem dX1_takeLatest_9 : decode cX1_takeLatest 9 = .ok (.getfield 18, 3) := by decide +kernel
theorem dX1_takeLatest_12 : decode cX1_takeLatest 12 = .ok (.iconst 1, 1) := by decide +kernel
theorem dX1_takeLatest_13 : decode cX1_takeLatest 13 = .ok (.isub, 1) := by decide +kernel
theorem dX1_takeLatest_14 : decode cX1_takeLatest 14 = .ok (.putfield 18, 3) := by decide +kernel
theorem dX1_takeLatest_17 : decode cX1_takeLatest 17 = .ok (.aload_n 0, 1) := by decide +kernel
theorem dX1_takeLatest_18 : decode cX1_takeLatest 18 = .ok (.getfield 11, 3) := by decide +kernel
theorem dX1_takeLatest_21 : decode cX1_takeLatest 21 = .ok (.aload_n 0, 1) := by decide +kernel
theorem dX1_takeLatest_22 : decode cX1_takeLatest 22 = .ok (.getfield 18, 3) := by decide +kernel
theorem dX1_takeLatest_25 : decode cX1_takeLatest 25 = .ok (.aaload, 1) := by decide +kernel
theorem dX1_takeLatest_26 : decode cX1_takeLatest 26 = .ok (.areturn, 1) := by decide +kernel
theorem dX2_init_0 : decode cX2_init 0 = .ok (.aload_n 0, 1) := by decide +kernel
theorem dX2_init_1 : decode cX2_init 1 = .ok (.invokespecial 3, 3) := by decide +kernel
theorem dX2_init_4 : decode cX2_init 4 = .ok (.aload_n 0, 1) := by decide +kernel
theorem dX2_init_5 : decode cX2_init 5 = .ok (.iconst 3, 1) := by decide +kernel
theorem dX2_init_6 : decode cX2_init 6 = .ok (.newarray .int, 2) := by decide +kernel
theorem dX2_init_8 : decode cX2_init 8 = .ok (.dup, 1) := by decide +kernel
theorem dX2_init_9 : decode cX2_init 9 = .ok (.iconst 0, 1) := by decide +kernel
theorem dX2_init_10 : decode cX2_init 10 = .ok (.iconst 5, 1) := by decide +kernel
theorem dX2_init_11 : decode cX2_init 11 = .ok (.iastore, 1) := by decide +kernel
theorem dX2_init_12 : decode cX2_init 12 = .ok (.dup, 1) := by decide +kernel
theorem dX2_init_13 : decode cX2_init 13 = .ok (.iconst 1, 1) := by decide +kernel
theorem dX2_init_14 : decode cX2_init 14 = .ok (.bipush 10, 2) := by decide +kernel
theorem dX2_init_16 : decode cX2_init 16 = .ok (.iastore, 1) := by decide +kernel
theorem dX2_init_17 : decode cX2_init 17 = .ok (.dup, 1) := by decide +kernel
theorem dX2_init_18 : decode cX2_init 18 = .ok (.iconst 2, 1) := by decide +kernel
theorem dX2_init_19 : decode cX2_init 19 = .ok (.bipush 60, 2) := by decide +kernel
theorem dX2_init_21 : decode cX2_init 21 = .ok (.iastore, 1) := by decide +kernel
theorem dX2_init_22 : decode cX2_init 22 = .ok (.putfield 9, 3) := by decide +kernel
theorem dX2_init_25 : decode cX2_init 25 = .ok (.aload_n 0, 1) := by decide +kernel
theorem dX2_init_26 : decode cX2_init 26 = .ok (.bipush 10, 2) := by decide +kernel
theorem dX2_init_28 : decode cX2_init 28 = .ok (.anewarray 15, 3) := by decide +kernel
theorem dX2_init_31 : decode cX2_init 31 = .ok (.putfield 17, 3) := by decide +kernel
theorem dX2_init_34 : decode cX2_init 34 = .ok (.aload_n 0, 1) := by decide +kernel
theorem dX2_init_35 : decode cX2_init 35 = .ok (.bipush 16, 2) := by decide +kernel
theorem dX2_init_37 : decode cX2_init 37 = .ok (.anewarray 21, 3) := by decide +kernel
theorem dX2_init_40 : decode cX2_init 40 = .ok (.putfield 23, 3) := by decide +kernel
theorem dX2_init_43 : decode cX2_init 43 = .ok (.aload_n 0, 1) := by decide +kernel
theorem dX2_init_44 : decode cX2_init 44 = .ok (.new 27, 3) := by decide +kernel
theorem dX2_init_47 : decode cX2_init 47 = .ok (.dup, 1) := by decide +kernel
theorem dX2_init_48 : decode cX2_init 48 = .ok (.invokespecial 29, 3) := by decide +kernel
theorem dX2_init_51 : decode cX2_init 51 = .ok (.putfield 30, 3) := by decide +kernel
theorem dX2_init_54 : decode cX2_init 54 = .ok (.iconst 0, 1) := by decide +kernel
theorem dX2_init_55 : decode cX2_init 55 = .ok (.istore_n 1, 1) := by decide +kernel
theorem dX2_init_56 : decode cX2_init 56 = .ok (.iload_n 1, 1) := by decide +kernel
theorem dX2_init_57 : decode cX2_init 57 = .ok (.bipush 10, 2) := by decide +kernel
theorem dX2_init_59 : decode cX2_init 59 = .ok (.if_icmp .ge 22, 3) := by decide +kernel
theorem dX2_init_62 : decode cX2_init 62 = .ok (.aload_n 0, 1) := by decide +kernel
theorem dX2_init_63 : decode cX2_init 63 = .ok (.getfield 17, 3) := by decide +kernel
theorem dX2_init_66 : decode cX2_init 66 = .ok (.iload_n 1, 1) := by decide +kernel
theorem dX2_init_67 : decode cX2_init 67 = .ok (.new 15, 3) := by decide +kernel
theorem dX2_init_70 : decode cX2_init 70 = .ok (.dup, 1) := by decide +kernel
theorem dX2_init_71 : decode cX2_init 71 = .ok (.invokespecial 34, 3) := by decide +kernel
theorem dX2_init_74 : decode cX2_init 74 = .ok (.aastore, 1) := by decide +kernel
theorem dX2_init_75 : decode cX2_init 75 = .ok (.iinc 1 1, 3) := by decide +kernel
theorem dX2_init_78 : decode cX2_init 78 = .ok (.goto (-22), 3) := by decide +kernel
theorem dX2_init_81 : decode cX2_init 81 = .ok (.iconst 0, 1) := by decide +kernel
theorem dX2_init_82 : decode cX2_init 82 = .ok (.istore_n 1, 1) := by decide +kernel
theorem dX2_init_83 : decode cX2_init 83 = .ok (.iload_n 1, 1) := by decide +kernel
theorem dX2_init_84 : decode cX2_init 84 = .ok (.bipush 16, 2) := by decide +kernel
theorem dX2_init_86 : decode cX2_init 86 = .ok (.if_icmp .ge 22, 3) := by decide +kernel
theorem dX2_init_89 : decode cX2_init 89 = .ok (.aload_n 0, 1) := by decide +kernel
theorem dX2_init_90 : decode cX2_init 90 = .ok (.getfield 23, 3) := by decide +kernel
theorem dX2_init_93 : decode cX2_init 93 = .ok (.iload_n 1, 1) := by decide +kernel
theorem dX2_init_94 : decode cX2_init 94 = .ok (.new 21, 3) := by decide +kernel
theorem dX2_init_97 : decode cX2_init 97 = .ok (.dup, 1) := by decide +kernel
theorem dX2_init_98 : decode cX2_init 98 = .ok (.invokespecial 35, 3) := by decide +kernel
theorem dX2_init_101 : decode cX2_init 101 = .ok (.aastore, 1) := by decide +kernel
theorem dX2_init_102 : decode cX2_init 102 = .ok (.iinc 1 1, 3) := by decide +kernel
theorem dX2_init_105 : decode cX2_init 105 = .ok (.goto (-22), 3) := by decide +kernel
theorem dX2_init_108 : decode cX2_init 108 = .ok (.return_, 1) := by decide +kernel
theorem dX2_copyFrom_0 : decode cX2_copyFrom 0 = .ok (.iconst 0, 1) := by decide +kernel
theorem dX2_copyFrom_1 : decode cX2_copyFrom 1 = .ok (.istore_n 2, 1) := by decide +kernel
theorem dX2_copyFrom_2 : decode cX2_copyFrom 2 = .ok (.iload_n 2, 1) := by decide +kernel
theorem dX2_copyFrom_3 : decode cX2_copyFrom 3 = .ok (.iconst 2, 1) := by decide +kernel
theorem dX2_copyFrom_4 : decode cX2_copyFrom 4 = .ok (.if_icmp .gt 21, 3) := by decide +kernel
theorem dX2_copyFrom_7 : decode cX2_copyFrom 7 = .ok (.aload_n 0, 1) := by decide +kernel
theorem dX2_copyFrom_8 : decode cX2_copyFrom 8 = .ok (.getfield 9, 3) := by decide +kernel
theorem dX2_copyFrom_11 : decode cX2_copyFrom 11 = .ok (.iload_n 2, 1) := by decide +kernel
theorem dX2_copyFrom_12 : decode cX2_copyFrom 12 = .ok (.aload_n 1, 1) := by decide +kernel
theorem dX2_copyFrom_13 : decode cX2_copyFrom 13 = .ok (.getfield 9, 3) := by decide +kernel
theorem dX2_copyFrom_16 : decode cX2_copyFrom 16 = .ok (.iload_n 2, 1) := by decide +kernel
theorem dX2_copyFrom_17 : decode cX2_copyFrom 17 = .ok (.iaload, 1) := by decide +kernel
theorem dX2_copyFrom_18 : decode cX2_copyFrom 18 = .ok (.iastore, 1) := by decide +kernel
theorem dX2_copyFrom_19 : decode cX2_copyFrom 19 = .ok (.iinc 2 1, 3) := by decide +kernel
theorem dX2_copyFrom_22 : decode cX2_copyFrom 22 = .ok (.goto (-20), 3) := by decide +kernel
theorem dX2_copyFrom_25 : decode cX2_copyFrom 25 = .ok (.iconst 0, 1) := by decide +kernel
theorem dX2_copyFrom_26 : decode cX2_copyFrom 26 = .ok (.istore_n 2, 1) := by decide +kernel
theorem dX2_copyFrom_27 : decode cX2_copyFrom 27 = .ok (.iload_n 2, 1) := by decide +kernel
theorem dX2_copyFrom_28 : decode cX2_copyFrom 28 = .ok (.aload_n 1, 1) := by decide +kernel
theorem dX2_copyFrom_29 : decode cX2_copyFrom 29 = .ok (.getfield 36, 3) := by decide +kernel
theorem dX2_copyFrom_32 : decode cX2_copyFrom 32 = .ok (.if_icmp .ge 24, 3) := by decide +kernel
theorem dX2_copyFrom_35 : decode cX2_copyFrom 35 = .ok (.aload_n 0, 1) := by decide +kernel
theorem dX2_copyFrom_36 : decode cX2_copyFrom 36 = .ok (.getfield 17, 3) := by decide +kernel
theorem dX2_copyFrom_39 : decode cX2_copyFrom 39 = .ok (.iload_n 2, 1) := by decide +kernel
theorem dX2_copyFrom_40 : decode cX2_copyFrom 40 = .ok (.aaload, 1) := by decide +kernel
theorem dX2_copyFrom_41 : decode cX2_copyFrom 41 = .ok (.aload_n 1, 1) := by decide +kernel
theorem dX2_copyFrom_42 : decode cX2_copyFrom 42 = .ok (.getfield 17, 3) := by decide +kernel
theorem dX2_copyFrom_45 : decode cX2_copyFrom 45 = .ok (.iload_n 2, 1) := by decide +kernel
theorem dX2_copyFrom_46 : decode cX2_copyFrom 46 = .ok (.aaload, 1) := by decide +kernel
theorem dX2_copyFrom_47 : decode cX2_copyFrom 47 = .ok (.invokevirtual 40, 3) := by decide +kernel
theorem dX2_copyFrom_50 : decode cX2_copyFrom 50 = .ok (.iinc 2 1, 3) := by decide +kernel
theorem dX2_copyFrom_53 : decode cX2_copyFrom 53 = .ok (.goto (-26), 3) := by decide +kernel
theorem dX2_copyFrom_56 : decode cX2_copyFrom 56 = .ok (.iconst 0, 1) := by decide +kernel
theorem dX2_copyFrom_57 : decode cX2_copyFrom 57 = .ok (.istore_n 2, 1) := by decide +kernel
theorem dX2_copyFrom_58 : decode cX2_copyFrom 58 = .ok (.iload_n 2, 1) := by decide +kernel
theorem dX2_copyFrom_59 : decode cX2_copyFrom 59 = .ok (.aload_n 1, 1) := by decide +kernel
theorem dX2_copyFrom_60 : decode cX2_copyFrom 60 = .ok (.getfield 44, 3) := by decide +kernel
theorem dX2_copyFrom_63 : decode cX2_copyFrom 63 = .ok (.if_icmp .ge 24, 3) := by decide +kernel
theorem dX2_copyFrom_66 : decode cX2_copyFrom 66 = .ok (.aload_n 0, 1) := by decide +kernel
theorem dX2_copyFrom_67 : decode cX2_copyFrom 67 = .ok (.getfield 23, 3) := by decide +kernel
theorem dX2_copyFrom_70 : decode cX2_copyFrom 70 = .ok (.iload_n 2, 1) := by decide +kernel
theorem dX2_copyFrom_71 : decode cX2_copyFrom 71 = .ok (.aaload, 1) := by decide +kernel
theorem dX2_copyFrom_72 : decode cX2_copyFrom 72 = .ok (.aload_n 1, 1) := by decide +kernel
theorem dX2_copyFrom_73 : decode cX2_copyFrom 73 = .ok (.getfield 23, 3) := by decide +kernel
theorem dX2_copyFrom_76 : decode cX2_copyFrom 76 = .ok (.iload_n 2, 1) := by decide +kernel
theorem dX2_copyFrom_77 : decode cX2_copyFrom 77 = .ok (.aaload, 1) := by decide +kernel
theorem dX2_copyFrom_78 : decode cX2_copyFrom 78 = .ok (.invokevirtual 47, 3) := by decide +kernel
theorem dX2_copyFrom_81 : decode cX2_copyFrom 81 = .ok (.iinc 2 1, 3) := by decide +kernel
theorem dX2_copyFrom_84 : decode cX2_copyFrom 84 = .ok (.goto (-26), 3) := by decide +kernel
theorem dX2_copyFrom_87 : decode cX2_copyFrom 87 = .ok (.aload_n 0, 1) := by decide +kernel
theorem dX2_copyFrom_88 : decode cX2_copyFrom 88 = .ok (.getfield 30, 3) := by decide +kernel
theorem dX2_copyFrom_91 : decode cX2_copyFrom 91 = .ok (.aload_n 1, 1) := by decide +kernel
theorem dX2_copyFrom_92 : decode cX2_copyFrom 92 = .ok (.getfield 30, 3) := by decide +kernel
theorem dX2_copyFrom_95 : decode cX2_copyFrom 95 = .ok (.invokevirtual 50, 3) := by decide +kernel
theorem dX2_copyFrom_98 : decode cX2_copyFrom 98 = .ok (.aload_n 0, 1) := by decide +kernel
theorem dX2_copyFrom_99 : decode cX2_copyFrom 99 = .ok (.aload_n 1, 1) := by decide +kernel
theorem dX2_copyFrom_100 : decode cX2_copyFrom 100 = .ok (.getfield 36, 3) := by decide +kernel
theorem dX2_copyFrom_103 : decode cX2_copyFrom 103 = .ok (.putfield 36, 3) := by decide +kernel
theorem dX2_copyFrom_106 : decode cX2_copyFrom 106 = .ok (.aload_n 0, 1) := by decide +kernel
theorem dX2_copyFrom_107 : decode cX2_copyFrom 107 = .ok (.aload_n 1, 1) := by decide +kernel
theorem dX2_copyFrom_108 : decode cX2_copyFrom 108 = .ok (.getfield 44, 3) := by decide +kernel
theorem dX2_copyFrom_111 : decode cX2_copyFrom 111 = .ok (.putfield 44, 3) := by decide +kernel
theorem dX2_copyFrom_114 : decode cX2_copyFrom 114 = .ok (.aload_n 0, 1) := by decide +kernel
theorem dX2_copyFrom_115 : decode cX2_copyFrom 115 = .ok (.aload_n 1, 1) := by decide +kernel
theorem dX2_copyFrom_116 : decode cX2_copyFrom 116 = .ok (.getfield 53, 3) := by decide +kernel
theorem dX2_copyFrom_119 : decode cX2_copyFrom 119 = .ok (.putfield 53, 3) := by decide +kernel
theorem dX2_copyFrom_122 : decode cX2_copyFrom 122 = .ok (.aload_n 0, 1) := by decide +kernel
theorem dX2_copyFrom_123 : decode cX2_copyFrom 123 = .ok (.aload_n 1, 1) := by decide +kernel
theorem dX2_copyFrom_124 : decode cX2_copyFrom 124 = .ok (.getfield 56, 3) := by decide +kernel
theorem dX2_copyFrom_127 : decode cX2_copyFrom 127 = .ok (.putfield 56, 3) := by decide +kernel
theorem dX2_copyFrom_130 : decode cX2_copyFrom 130 = .ok (.aload_n 0, 1) := by decide +kernel
theorem dX2_copyFrom_131 : decode cX2_copyFrom 131 = .ok (.aload_n 1, 1) := by decide +kernel
theorem dX2_copyFrom_132 : decode cX2_copyFrom 132 = .ok (.getfield 59, 3) := by decide +kernel
theorem dX2_copyFrom_135 : decode cX2_copyFrom 135 = .ok (.putfield 59, 3) := by decide +kernel
theorem dX2_copyFrom_138 : decode cX2_copyFrom 138 = .ok (.aload_n 0, 1) := by decide +kernel
theorem dX2_copyFrom_139 : decode cX2_copyFrom 139 = .ok (.aload_n 1, 1) := by decide +kernel
theorem dX2_copyFrom_140 : decode cX2_copyFrom 140 = .ok (.getfield 62, 3) := by decide +kernel
theorem dX2_copyFrom_143 : decode cX2_copyFrom 143 = .ok (.putfield 62, 3) := by decide +kernel
theorem dX2_copyFrom_146 : decode cX2_copyFrom 146 = .ok (.aload_n 0, 1) := by decide +kernel
theorem dX2_copyFrom_147 : decode cX2_copyFrom 147 = .ok (.aload_n 1, 1) := by decide +kernel
theorem dX2_copyFrom_148 : decode cX2_copyFrom 148 = .ok (.getfield 65, 3) := by decide +kernel
theorem dX2_copyFrom_151 : decode cX2_copyFrom 151 = .ok (.putfield 65, 3) := by decide +kernel
theorem dX2_copyFrom_154 : decode cX2_copyFrom 154 = .ok (.return_, 1) := by decide +kernel
theorem dX2_isRoom_0 : decode cX2_isRoom 0 = .ok (.iload_n 0, 1) := by decide +kernel
theorem dX2_isRoom_1 : decode cX2_isRoom 1 = .ok (.ifCond .lt 13, 3) := by decide +kernel
theorem dX2_isRoom_4 : decode cX2_isRoom 4 = .ok (.iload_n 0, 1) := by decide +kernel
theorem dX2_isRoom_5 : decode cX2_isRoom 5 = .ok (.bipush 8, 2) := by decide +kernel
theorem dX2_isRoom_7 : decode cX2_isRoom 7 = .ok (.if_icmp .ge 7, 3) := by decide +kernel
theorem dX2_isRoom_10 : decode cX2_isRoom 10 = .ok (.iconst 1, 1) := by decide +kernel
theorem dX2_isRoom_11 : decode cX2_isRoom 11 = .ok (.goto 4, 3) := by decide +kernel
theorem dX2_isRoom_14 : decode cX2_isRoom 14 = .ok (.iconst 0, 1) := by decide +kernel
theorem dX2_isRoom_15 : decode cX2_isRoom 15 = .ok (.ireturn, 1) := by decide +kernel
theorem dX2_hasDoor_0 : decode cX2_hasDoor 0 = .ok (.iload_n 1, 1) := by decide +kernel
theorem dX2_hasDoor_1 : decode cX2_hasDoor 1 = .ok (.ifCond .lt 15, 3) := by decide +kernel
theorem dX2_hasDoor_4 : decode cX2_hasDoor 4 = .ok (.iload_n 1, 1) := by decide +kernel
theorem dX2_hasDoor_5 : decode cX2_hasDoor 5 = .ok (.aload_n 0, 1) := by decide +kernel
theorem dX2_hasDoor_6 : decode cX2_hasDoor 6 = .ok (.getfield 36, 3) := by decide +kernel
theorem dX2_hasDoor_9 : decode cX2_hasDoor 9 = .ok (.if_icmp .ge 7, 3) := by decide +kernel
theorem dX2_hasDoor_12 : decode cX2_hasDoor 12 = .ok (.iconst 1, 1) := by decide +kernel
theorem dX2_hasDoor_13 : decode cX2_hasDoor 13 = .ok (.goto 4, 3) := by decide +kernel
theorem dX2_hasDoor_16 : decode cX2_hasDoor 16 = .ok (.iconst 0, 1) := by decide +kernel
theorem dX2_hasDoor_17 : decode cX2_hasDoor 17 = .ok (.ireturn, 1) := by decide +kernel
theorem dX2_hasDoors_0 : decode cX2_hasDoors 0 = .ok (.iload_n 1, 1) := by decide +kernel
theorem dX2_hasDoors_1 : decode cX2_hasDoors 1 = .ok (.ifCond .lt 16, 3) := by decide +kernel
theorem dX2_hasDoors_4 : decode cX2_hasDoors 4 = .ok (.iload_n 1, 1) := by decide +kernel
theorem dX2_hasDoors_5 : decode cX2_hasDoors 5 = .ok (.aload_n 0, 1) := by decide +kernel
theorem dX2_hasDoors_6 : decode cX2_hasDoors 6 = .ok (.getfield 36, 3) := by decide +kernel
theorem dX2_hasDoors_9 : decode cX2_hasDoors 9 = .ok (.ishr, 1) := by decide +kernel
theorem dX2_hasDoors_10 : decode cX2_hasDoors 10 = .ok (.ifCond .ne 7, 3) := by decide +kernel
theorem dX2_hasDoors_13 : decode cX2_hasDoors 13 = .ok (.iconst 1, 1) := by decide +kernel
theorem dX2_hasDoors_14 : decode cX2_hasDoors 14 = .ok (.goto 4, 3) := by decide +kernel
theorem dX2_hasDoors_17 : decode cX2_hasDoors 17 = .ok (.iconst 0, 1) := by decide +kernel
theorem dX2_hasDoors_18 : decode cX2_hasDoors 18 = .ok (.ireturn, 1) := by decide +kernel
theorem dX2_hasKey_0 : decode cX2_hasKey 0 = .ok (.iload_n 1, 1) := by decide +kernel
theorem dX2_hasKey_1 : decode cX2_hasKey 1 = .ok (.ifCond .lt 15, 3) := by decide +kernel
theorem dX2_hasKey_4 : decode cX2_hasKey 4 = .ok (.iload_n 1, 1) := by decide +kernel
theorem dX2_hasKey_5 : decode cX2_hasKey 5 = .ok (.aload_n 0, 1) := by decide +kernel
theorem dX2_hasKey_6 : decode cX2_hasKey 6 = .ok (.getfield 44, 3) := by decide +kernel
theorem dX2_hasKey_9 : decode cX2_hasKey 9 = .ok (.if_icmp .ge 7, 3) := by decide +kernel
theorem dX2_hasKey_12 : decode cX2_hasKey 12 = .ok (.iconst 1, 1) := by decide +kernel
theorem dX2_hasKey_13 : decode cX2_hasKey 13 = .ok (.goto 4, 3) := by decide +kernel
theorem dX2_hasKey_16 : decode cX2_hasKey 16 = .ok (.iconst 0, 1) := by decide +kernel
theorem dX2_hasKey_17 : decode cX2_hasKey 17 = .ok (.ireturn, 1) := by decide +kernel
theorem dX2_changeSetting_0 : decode cX2_changeSetting 0 = .ok (.iload_n 1, 1) := by decide +kernel
theorem dX2_changeSetting_1 : decode cX2_changeSetting 1 = .ok (.ifCond .lt 8, 3) := by decide +kernel
theorem dX2_changeSetting_4 : decode cX2_changeSetting 4 = .ok (.iload_n 1, 1) := by decide +kernel
theorem dX2_changeSetting_5 : decode cX2_changeSetting 5 = .ok (.iconst 2, 1) := by decide +kernel
theorem dX2_changeSetting_6 : decode cX2_changeSetting 6 = .ok (.if_icmp .le 6, 3) := by decide +kernel
theorem dX2_changeSetting_9 : decode cX2_changeSetting 9 = .ok (.bipush (-2), 2) := by decide +kernel
theorem dX2_changeSetting_11 : decode cX2_changeSetting 11 = .ok (.ireturn, 1) := by decide +kernel
theorem dX2_changeSetting_12 : decode cX2_changeSetting 12 = .ok (.iload_n 2, 1) := by decide +kernel
theorem dX2_changeSetting_13 : decode cX2_changeSetting 13 = .ok (.getstatic 68, 3) := by decide +kernel
theorem dX2_changeSetting_16 : decode cX2_changeSetting 16 = .ok (.iload_n 1, 1) := by decide +kernel
theorem dX2_changeSetting_17 : decode cX2_changeSetting 17 = .ok (.iaload, 1) := by decide +kernel
theorem dX2_changeSetting_18 : decode cX2_changeSetting 18 = .ok (.if_icmp .lt 12, 3) := by decide +kernel
theorem dX2_changeSetting_21 : decode cX2_changeSetting 21 = .ok (.iload_n 2, 1) := by decide +kernel
theorem dX2_changeSetting_22 : decode cX2_changeSetting 22 = .ok (.getstatic 71, 3) := by decide +kernel
theorem dX2_changeSetting_25 : decode cX2_changeSetting 25 = .ok (.iload_n 1, 1) := by decide +kernel
theorem dX2_changeSetting_26 : decode cX2_changeSetting 26 = .ok (.iaload, 1) := by decide +kernel
theorem dX2_changeSetting_27 : decode cX2_changeSetting 27 = .ok (.if_icmp .le 6, 3) := by decide +kernel
theorem dX2_changeSetting_30 : decode cX2_changeSetting 30 = .ok (.bipush (-2), 2) := by decide +kernel
theorem dX2_changeSetting_32 : decode cX2_changeSetting 32 = .ok (.ireturn, 1) := by decide +kernel
theorem dX2_changeSetting_33 : decode cX2_changeSetting 33 = .ok (.aload_n 0, 1) := by decide +kernel
theorem dX2_changeSetting_34 : decode cX2_changeSetting 34 = .ok (.getfield 9, 3) := by decide +kernel
theorem dX2_changeSetting_37 : decode cX2_changeSetting 37 = .ok (.iload_n 1, 1) := by decide +kernel
theorem dX2_changeSetting_38 : decode cX2_changeSetting 38 = .ok (.iaload, 1) := by decide +kernel
theorem dX2_changeSetting_39 : decode cX2_changeSetting 39 = .ok (.istore_n 3, 1) := by decide +kernel
theorem dX2_changeSetting_40 : decode cX2_changeSetting 40 = .ok (.aload_n 0, 1) := by decide +kernel
theorem dX2_changeSetting_41 : decode cX2_changeSetting 41 = .ok (.getfield 9, 3) := by decide +kernel
theorem dX2_changeSetting_44 : decode cX2_changeSetting 44 = .ok (.iload_n 1, 1) := by decide +kernel
theorem dX2_changeSetting_45 : decode cX2_changeSetting 45 = .ok (.iload_n 2, 1) := by decide +kernel
theorem dX2_changeSetting_46 : decode cX2_changeSetting 46 = .ok (.iastore, 1) := by decide +kernel
theorem dX2_changeSetting_47 : decode cX2_changeSetting 47 = .ok (.iload_n 3, 1) := by decide +kernel
theorem dX2_changeSetting_48 : decode cX2_changeSetting 48 = .ok (.ireturn, 1) := by decide +kernel
theorem dX2_bringBrass_0 : decode cX2_bringBrass 0 = .ok (.iload_n 1, 1) := by decide +kernel
theorem dX2_bringBrass_1 : decode cX2_bringBrass 1 = .ok (.iconst 1, 1) := by decide +kernel
theorem dX2_bringBrass_2 : decode cX2_bringBrass 2 = .ok (.if_icmp .lt 10, 3) := by decide +kernel
theorem dX2_bringBrass_5 : decode cX2_bringBrass 5 = .ok (.iload_n 1, 1) := by decide +kernel
theorem dX2_bringBrass_6 : decode cX2_bringBrass 6 = .ok (.sipush 1000, 3) := by decide +kernel
theorem dX2_bringBrass_9 : decode cX2_bringBrass 9 = .ok (.if_icmp .le 6, 3) := by decide +kernel
theorem dX2_bringBrass_12 : decode cX2_bringBrass 12 = .ok (.bipush (-2), 2) := by decide +kernel
theorem dX2_bringBrass_14 : decode cX2_bringBrass 14 = .ok (.ireturn, 1) := by decide +kernel
theorem dX2_bringBrass_15 : decode cX2_bringBrass 15 = .ok (.aload_n 0, 1) := by decide +kernel
theorem dX2_bringBrass_16 : decode cX2_bringBrass 16 = .ok (.dup, 1) := by decide +kernel
theorem dX2_bringBrass_17 : decode cX2_bringBrass 17 = .ok (.getfield 62, 3) := by decide +kernel
theorem dX2_bringBrass_20 : decode cX2_bringBrass 20 = .ok (.iload_n 1, 1) := by decide +kernel
theorem dX2_bringBrass_21 : decode cX2_bringBrass 21 = .ok (.iadd, 1) := by decide +kernel
theorem dX2_bringBrass_22 : decode cX2_bringBrass 22 = .ok (.putfield 62, 3) := by decide +kernel
theorem dX2_bringBrass_25 : decode cX2_bringBrass 25 = .ok (.aload_n 0, 1) := by decide +kernel
theorem dX2_bringBrass_26 : decode cX2_bringBrass 26 = .ok (.dup, 1) := by decide +kernel
theorem dX2_bringBrass_27 : decode cX2_bringBrass 27 = .ok (.getfield 59, 3) := by decide +kernel
theorem dX2_bringBrass_30 : decode cX2_bringBrass 30 = .ok (.iload_n 1, 1) := by decide +kernel
theorem dX2_bringBrass_31 : decode cX2_bringBrass 31 = .ok (.iadd, 1) := by decide +kernel
theorem dX2_bringBrass_32 : decode cX2_bringBrass 32 = .ok (.putfield 59, 3) := by decide +kernel
theorem dX2_bringBrass_35 : decode cX2_bringBrass 35 = .ok (.aload_n 0, 1) := by decide +kernel
theorem dX2_bringBrass_36 : decode cX2_bringBrass 36 = .ok (.getfield 59, 3) := by decide +kernel
theorem dX2_bringBrass_39 : decode cX2_bringBrass 39 = .ok (.ireturn, 1) := by decide +kernel
theorem dX2_makeDoor_0 : decode cX2_makeDoor 0 = .ok (.iload_n 1, 1) := by decide +kernel
theorem dX2_makeDoor_1 : decode cX2_makeDoor 1 = .ok (.invokestatic 74, 3) := by decide +kernel
theorem dX2_makeDoor_4 : decode cX2_makeDoor 4 = .ok (.ifCond .eq 15, 3) := by decide +kernel
theorem dX2_makeDoor_7 : decode cX2_makeDoor 7 = .ok (.iload_n 2, 1) := by decide +kernel
theorem dX2_makeDoor_8 : decode cX2_makeDoor 8 = .ok (.invokestatic 74, 3) := by decide +kernel
theorem dX2_makeDoor_11 : decode cX2_makeDoor 11 = .ok (.ifCond .eq 8, 3) := by decide +kernel
theorem dX2_makeDoor_14 : decode cX2_makeDoor 14 = .ok (.iload_n 1, 1) := by decide +kernel
theorem dX2_makeDoor_15 : decode cX2_makeDoor 15 = .ok (.iload_n 2, 1) := by decide +kernel
theorem dX2_makeDoor_16 : decode cX2_makeDoor 16 = .ok (.if_icmp .ne 6, 3) := by decide +kernel
theorem dX2_makeDoor_19 : decode cX2_makeDoor 19 = .ok (.bipush (-2), 2) := by decide +kernel
theorem dX2_makeDoor_21 : decode cX2_makeDoor 21 = .ok (.ireturn, 1) := by decide +kernel
theorem dX2_makeDoor_22 : decode cX2_makeDoor 22 = .ok (.iload_n 3, 1) := by decide +kernel
theorem dX2_makeDoor_23 : decode cX2_makeDoor 23 = .ok (.invokestatic 78, 3) := by decide +kernel
theorem dX2_makeDoor_26 : decode cX2_makeDoor 26 = .ok (.ifCond .eq 11, 3) := by decide +kernel
theorem dX2_makeDoor_29 : decode cX2_makeDoor 29 = .ok (.iload 4, 2) := by decide +kernel
theorem dX2_makeDoor_31 : decode cX2_makeDoor 31 = .ok (.invokestatic 78, 3) := by decide +kernel
theorem dX2_makeDoor_34 : decode cX2_makeDoor 34 = .ok (.ifCond .ne 6, 3) := by decide +kernel
theorem dX2_makeDoor_37 : decode cX2_makeDoor 37 = .ok (.bipush (-2), 2) := by decide +kernel
theorem dX2_makeDoor_39 : decode cX2_makeDoor 39 = .ok (.ireturn, 1) := by decide +kernel
theorem dX2_makeDoor_40 : decode cX2_makeDoor 40 = .ok (.aload_n 0, 1) := by decide +kernel
theorem dX2_makeDoor_41 : decode cX2_makeDoor 41 = .ok (.getfield 36, 3) := by decide +kernel
theorem dX2_makeDoor_44 : decode cX2_makeDoor 44 = .ok (.bipush 10, 2) := by decide +kernel
theorem dX2_makeDoor_46 : decode cX2_makeDoor 46 = .ok (.if_icmp .lt 6, 3) := by decide +kernel
theorem dX2_makeDoor_49 : decode cX2_makeDoor 49 = .ok (.bipush (-4), 2) := by decide +kernel
theorem dX2_makeDoor_51 : decode cX2_makeDoor 51 = .ok (.ireturn, 1) := by decide +kernel
theorem dX2_makeDoor_52 : decode cX2_makeDoor 52 = .ok (.iload_n 3, 1) := by decide +kernel
theorem dX2_makeDoor_53 : decode cX2_makeDoor 53 = .ok (.iload 4, 2) := by decide +kernel
theorem dX2_makeDoor_55 : decode cX2_makeDoor 55 = .ok (.invokestatic 83, 3) := by decide +kernel
theorem dX2_makeDoor_58 : decode cX2_makeDoor 58 = .ok (.istore 5, 2) := by decide +kernel
theorem dX2_makeDoor_60 : decode cX2_makeDoor 60 = .ok (.iload 5, 2) := by decide +kernel
theorem dX2_makeDoor_62 : decode cX2_makeDoor 62 = .ok (.aload_n 0, 1) := by decide +kernel
theorem dX2_makeDoor_63 : decode cX2_makeDoor 63 = .ok (.getfield 59, 3) := by decide +kernel
theorem dX2_makeDoor_66 : decode cX2_makeDoor 66 = .ok (.if_icmp .le 6, 3) := by decide +kernel
theorem dX2_makeDoor_69 : decode cX2_makeDoor 69 = .ok (.bipush (-5), 2) := by decide +kernel
theorem dX2_makeDoor_71 : decode cX2_makeDoor 71 = .ok (.ireturn, 1) := by decide +kernel
theorem dX2_makeDoor_72 : decode cX2_makeDoor 72 = .ok (.aload_n 0, 1) := by decide +kernel
theorem dX2_makeDoor_73 : decode cX2_makeDoor 73 = .ok (.dup, 1) := by decide +kernel
theorem dX2_makeDoor_74 : decode cX2_makeDoor 74 = .ok (.getfield 59, 3) := by decide +kernel
theorem dX2_makeDoor_77 : decode cX2_makeDoor 77 = .ok (.iload 5, 2) := by decide +kernel
theorem dX2_makeDoor_79 : decode cX2_makeDoor 79 = .ok (.isub, 1) := by decide +kernel
theorem dX2_makeDoor_80 : decode cX2_makeDoor 80 = .ok (.putfield 59, 3) := by decide +kernel
theorem dX2_makeDoor_83 : decode cX2_makeDoor 83 = .ok (.aload_n 0, 1) := by decide +kernel
theorem dX2_makeDoor_84 : decode cX2_makeDoor 84 = .ok (.getfield 17, 3) := by decide +kernel
theorem dX2_makeDoor_87 : decode cX2_makeDoor 87 = .ok (.aload_n 0, 1) := by decide +kernel
theorem dX2_makeDoor_88 : decode cX2_makeDoor 88 = .ok (.getfield 36, 3) := by decide +kernel
theorem dX2_makeDoor_91 : decode cX2_makeDoor 91 = .ok (.aaload, 1) := by decide +kernel
theorem dX2_makeDoor_92 : decode cX2_makeDoor 92 = .ok (.iload_n 1, 1) := by decide +kernel
theorem dX2_makeDoor_93 : decode cX2_makeDoor 93 = .ok (.iload_n 2, 1) := by decide +kernel
theorem dX2_makeDoor_94 : decode cX2_makeDoor 94 = .ok (.iload_n 3, 1) := by decide +kernel
theorem dX2_makeDoor_95 : decode cX2_makeDoor 95 = .ok (.iload 4, 2) := by decide +kernel
theorem dX2_makeDoor_97 : decode cX2_makeDoor 97 = .ok (.invokevirtual 87, 3) := by decide +kernel
theorem dX2_makeDoor_100 : decode cX2_makeDoor 100 = .ok (.aload_n 0, 1) := by decide +kernel
theorem dX2_makeDoor_101 : decode cX2_makeDoor 101 = .ok (.dup, 1) := by decide +kernel
theorem dX2_makeDoor_102 : decode cX2_makeDoor 102 = .ok (.getfield 36, 3) := by decide +kernel
theorem dX2_makeDoor_105 : decode cX2_makeDoor 105 = .ok (.iconst 1, 1) := by decide +kernel
theorem dX2_makeDoor_106 : decode cX2_makeDoor 106 = .ok (.iadd, 1) := by decide +kernel
theorem dX2_makeDoor_107 : decode cX2_makeDoor 107 = .ok (.putfield 36, 3) := by decide +kernel
theorem dX2_makeDoor_110 : decode cX2_makeDoor 110 = .ok (.aload_n 0, 1) := by decide +kernel
theorem dX2_makeDoor_111 : decode cX2_makeDoor 111 = .ok (.getfield 36, 3) := by decide +kernel
theorem dX2_makeDoor_114 : decode cX2_makeDoor 114 = .ok (.iconst 1, 1) := by decide +kernel
theorem dX2_makeDoor_115 : decode cX2_makeDoor 115 = .ok (.isub, 1) := by decide +kernel
theorem dX2_makeDoor_116 : decode cX2_makeDoor 116 = .ok (.ireturn, 1) := by decide +kernel
theorem dX2_cutAnew_0 : decode cX2_cutAnew 0 = .ok (.aload_n 0, 1) := by decide +kernel
theorem dX2_cutAnew_1 : decode cX2_cutAnew 1 = .ok (.iload_n 1, 1) := by decide +kernel
theorem dX2_cutAnew_2 : decode cX2_cutAnew 2 = .ok (.invokevirtual 91, 3) := by decide +kernel
theorem dX2_cutAnew_5 : decode cX2_cutAnew 5 = .ok (.ifCond .ne 5, 3) := by decide +kernel
theorem dX2_cutAnew_8 : decode cX2_cutAnew 8 = .ok (.iconst (-1), 1) := by decide +kernel
theorem dX2_cutAnew_9 : decode cX2_cutAnew 9 = .ok (.ireturn, 1) := by decide +kernel
theorem dX2_cutAnew_10 : decode cX2_cutAnew 10 = .ok (.iload_n 2, 1) := by decide +kernel
theorem dX2_cutAnew_11 : decode cX2_cutAnew 11 = .ok (.invokestatic 78, 3) := by decide +kernel
theorem dX2_cutAnew_14 : decode cX2_cutAnew 14 = .ok (.ifCond .eq 10, 3) := by decide +kernel
theorem dX2_cutAnew_17 : decode cX2_cutAnew 17 = .ok (.iload_n 3, 1) := by decide +kernel
theorem dX2_cutAnew_18 : decode cX2_cutAnew 18 = .ok (.invokestatic 78, 3) := by decide +kernel
theorem dX2_cutAnew_21 : decode cX2_cutAnew 21 = .ok (.ifCond .ne 6, 3) := by decide +kernel
theorem dX2_cutAnew_24 : decode cX2_cutAnew 24 = .ok (.bipush (-2), 2) := by decide +kernel
theorem dX2_cutAnew_26 : decode cX2_cutAnew 26 = .ok (.ireturn, 1) := by decide +kernel
theorem dX2_cutAnew_27 : decode cX2_cutAnew 27 = .ok (.aload_n 0, 1) := by decide +kernel
theorem dX2_cutAnew_28 : decode cX2_cutAnew 28 = .ok (.getfield 17, 3) := by decide +kernel
theorem dX2_cutAnew_31 : decode cX2_cutAnew 31 = .ok (.iload_n 1, 1) := by decide +kernel
theorem dX2_cutAnew_32 : decode cX2_cutAnew 32 = .ok (.aaload, 1) := by decide +kernel
theorem dX2_cutAnew_33 : decode cX2_cutAnew 33 = .ok (.astore 4, 2) := by decide +kernel
theorem dX2_cutAnew_35 : decode cX2_cutAnew 35 = .ok (.aload 4, 2) := by decide +kernel
theorem dX2_cutAnew_37 : decode cX2_cutAnew 37 = .ok (.invokevirtual 94, 3) := by decide +kernel
theorem dX2_cutAnew_40 : decode cX2_cutAnew 40 = .ok (.aload_n 0, 1) := by decide +kernel
theorem dX2_cutAnew_41 : decode cX2_cutAnew 41 = .ok (.getfield 9, 3) := by decide +kernel
theorem dX2_cutAnew_44 : decode cX2_cutAnew 44 = .ok (.iconst 1, 1) := by decide +kernel
theorem dX2_cutAnew_45 : decode cX2_cutAnew 45 = .ok (.iaload, 1) := by decide +kernel
theorem dX2_cutAnew_46 : decode cX2_cutAnew 46 = .ok (.invokestatic 98, 3) := by decide +kernel
theorem dX2_cutAnew_49 : decode cX2_cutAnew 49 = .ok (.istore 5, 2) := by decide +kernel
theorem dX2_cutAnew_51 : decode cX2_cutAnew 51 = .ok (.aload_n 0, 1) := by decide +kernel
theorem dX2_cutAnew_52 : decode cX2_cutAnew 52 = .ok (.getfield 59, 3) := by decide +kernel
theorem dX2_cutAnew_55 : decode cX2_cutAnew 55 = .ok (.aload 4, 2) := by decide +kernel
theorem dX2_cutAnew_57 : decode cX2_cutAnew 57 = .ok (.invokevirtual 94, 3) := by decide +kernel
theorem dX2_cutAnew_60 : decode cX2_cutAnew 60 = .ok (.iadd, 1) := by decide +kernel
theorem dX2_cutAnew_61 : decode cX2_cutAnew 61 = .ok (.iload 5, 2) := by decide +kernel
theorem dX2_cutAnew_63 : decode cX2_cutAnew 63 = .ok (.isub, 1) := by decide +kernel
theorem dX2_cutAnew_64 : decode cX2_cutAnew 64 = .ok (.iload_n 2, 1) := by decide +kernel
theorem dX2_cutAnew_65 : decode cX2_cutAnew 65 = .ok (.iload_n 3, 1) := by decide +kernel
theorem dX2_cutAnew_66 : decode cX2_cutAnew 66 = .ok (.invokestatic 83, 3) := by decide +kernel
theorem dX2_cutAnew_69 : decode cX2_cutAnew 69 = .ok (.isub, 1) := by decide +kernel
theorem dX2_cutAnew_70 : decode cX2_cutAnew 70 = .ok (.istore 6, 2) := by decide +kernel
theorem dX2_cutAnew_72 : decode cX2_cutAnew 72 = .ok (.iload 6, 2) := by decide +kernel
theorem dX2_cutAnew_74 : decode cX2_cutAnew 74 = .ok (.ifCond .ge 6, 3) := by decide +kernel
theorem dX2_cutAnew_77 : decode cX2_cutAnew 77 = .ok (.bipush (-5), 2) := by decide +kernel
theorem dX2_cutAnew_79 : decode cX2_cutAnew 79 = .ok (.ireturn, 1) := by decide +kernel
theorem dX2_cutAnew_80 : decode cX2_cutAnew 80 = .ok (.aload_n 0, 1) := by decide +kernel
theorem dX2_cutAnew_81 : decode cX2_cutAnew 81 = .ok (.iload 6, 2) := by decide +kernel
theorem dX2_cutAnew_83 : decode cX2_cutAnew 83 = .ok (.putfield 59, 3) := by decide +kernel
theorem dX2_cutAnew_86 : decode cX2_cutAnew 86 = .ok (.aload_n 0, 1) := by decide +kernel
theorem dX2_cutAnew_87 : decode cX2_cutAnew 87 = .ok (.dup, 1) := by decide +kernel
theorem dX2_cutAnew_88 : decode cX2_cutAnew 88 = .ok (.getfield 65, 3) := by decide +kernel
theorem dX2_cutAnew_91 : decode cX2_cutAnew 91 = .ok (.iload 5, 2) := by decide +kernel
theorem dX2_cutAnew_93 : decode cX2_cutAnew 93 = .ok (.iadd, 1) := by decide +kernel
theorem dX2_cutAnew_94 : decode cX2_cutAnew 94 = .ok (.putfield 65, 3) := by decide +kernel
theorem dX2_cutAnew_97 : decode cX2_cutAnew 97 = .ok (.aload 4, 2) := by decide +kernel
theorem dX2_cutAnew_99 : decode cX2_cutAnew 99 = .ok (.iload_n 2, 1) := by decide +kernel
theorem dX2_cutAnew_100 : decode cX2_cutAnew 100 = .ok (.putfield 101, 3) := by decide +kernel
theorem dX2_cutAnew_103 : decode cX2_cutAnew 103 = .ok (.aload 4, 2) := by decide +kernel
theorem dX2_cutAnew_105 : decode cX2_cutAnew 105 = .ok (.iload_n 3, 1) := by decide +kernel
theorem dX2_cutAnew_106 : decode cX2_cutAnew 106 = .ok (.putfield 104, 3) := by decide +kernel
theorem dX2_cutAnew_109 : decode cX2_cutAnew 109 = .ok (.aload 4, 2) := by decide +kernel
theorem dX2_cutAnew_111 : decode cX2_cutAnew 111 = .ok (.dup, 1) := by decide +kernel
theorem dX2_cutAnew_112 : decode cX2_cutAnew 112 = .ok (.getfield 107, 3) := by decide +kernel
theorem dX2_cutAnew_115 : decode cX2_cutAnew 115 = .ok (.iconst 1, 1) := by decide +kernel
theorem dX2_cutAnew_116 : decode cX2_cutAnew 116 = .ok (.iadd, 1) := by decide +kernel
theorem dX2_cutAnew_117 : decode cX2_cutAnew 117 = .ok (.putfield 107, 3) := by decide +kernel
theorem dX2_cutAnew_120 : decode cX2_cutAnew 120 = .ok (.aload_n 0, 1) := by decide +kernel
theorem dX2_cutAnew_121 : decode cX2_cutAnew 121 = .ok (.getfield 59, 3) := by decide +kernel
theorem dX2_cutAnew_124 : decode cX2_cutAnew 124 = .ok (.ireturn, 1) := by decide +kernel
theorem dX2_makeKey_0 : decode cX2_makeKey 0 = .ok (.iload_n 1, 1) := by decide +kernel
theorem dX2_makeKey_1 : decode cX2_makeKey 1 = .ok (.invokestatic 78, 3) := by decide +kernel
theorem dX2_makeKey_4 : decode cX2_makeKey 4 = .ok (.ifCond .eq 10, 3) := by decide +kernel
theorem dX2_makeKey_7 : decode cX2_makeKey 7 = .ok (.iload_n 2, 1) := by decide +kernel
theorem dX2_makeKey_8 : decode cX2_makeKey 8 = .ok (.invokestatic 74, 3) := by decide +kernel
theorem dX2_makeKey_11 : decode cX2_makeKey 11 = .ok (.ifCond .ne 6, 3) := by decide +kernel
theorem dX2_makeKey_14 : decode cX2_makeKey 14 = .ok (.bipush (-2), 2) := by decide +kernel
theorem dX2_makeKey_16 : decode cX2_makeKey 16 = .ok (.ireturn, 1) := by decide +kernel
theorem dX2_makeKey_17 : decode cX2_makeKey 17 = .ok (.aload_n 0, 1) := by decide +kernel
theorem dX2_makeKey_18 : decode cX2_makeKey 18 = .ok (.getfield 44, 3) := by decide +kernel
theorem dX2_makeKey_21 : decode cX2_makeKey 21 = .ok (.bipush 16, 2) := by decide +kernel
theorem dX2_makeKey_23 : decode cX2_makeKey 23 = .ok (.if_icmp .lt 6, 3) := by decide +kernel
theorem dX2_makeKey_26 : decode cX2_makeKey 26 = .ok (.bipush (-4), 2) := by decide +kernel
theorem dX2_makeKey_28 : decode cX2_makeKey 28 = .ok (.ireturn, 1) := by decide +kernel
theorem dX2_makeKey_29 : decode cX2_makeKey 29 = .ok (.iload_n 1, 1) := by decide +kernel
theorem dX2_makeKey_30 : decode cX2_makeKey 30 = .ok (.aload_n 0, 1) := by decide +kernel
theorem dX2_makeKey_31 : decode cX2_makeKey 31 = .ok (.getfield 9, 3) := by decide +kernel
theorem dX2_makeKey_34 : decode cX2_makeKey 34 = .ok (.iconst 0, 1) := by decide +kernel
theorem dX2_makeKey_35 : decode cX2_makeKey 35 = .ok (.iaload, 1) := by decide +kernel
theorem dX2_makeKey_36 : decode cX2_makeKey 36 = .ok (.invokestatic 110, 3) := by decide +kernel
theorem dX2_makeKey_39 : decode cX2_makeKey 39 = .ok (.ifCond .ne 6, 3) := by decide +kernel
theorem dX2_makeKey_42 : decode cX2_makeKey 42 = .ok (.bipush (-5), 2) := by decide +kernel
theorem dX2_makeKey_44 : decode cX2_makeKey 44 = .ok (.ireturn, 1) := by decide +kernel
theorem dX2_makeKey_45 : decode cX2_makeKey 45 = .ok (.iload_n 1, 1) := by decide +kernel
theorem dX2_makeKey_46 : decode cX2_makeKey 46 = .ok (.invokestatic 114, 3) := by decide +kernel
theorem dX2_makeKey_49 : decode cX2_makeKey 49 = .ok (.istore_n 3, 1) := by decide +kernel
theorem dX2_makeKey_50 : decode cX2_makeKey 50 = .ok (.aload_n 0, 1) := by decide +kernel
theorem dX2_makeKey_51 : decode cX2_makeKey 51 = .ok (.getfield 23, 3) := by decide +kernel
theorem dX2_makeKey_54 : decode cX2_makeKey 54 = .ok (.aload_n 0, 1) := by decide +kernel
theorem dX2_makeKey_55 : decode cX2_makeKey 55 = .ok (.getfield 44, 3) := by decide +kernel
theorem dX2_makeKey_58 : decode cX2_makeKey 58 = .ok (.aaload, 1) := by decide +kernel
theorem dX2_makeKey_59 : decode cX2_makeKey 59 = .ok (.astore 4, 2) := by decide +kernel
theorem dX2_makeKey_61 : decode cX2_makeKey 61 = .ok (.aload 4, 2) := by decide +kernel
theorem dX2_makeKey_63 : decode cX2_makeKey 63 = .ok (.iload_n 1, 1) := by decide +kernel
theorem dX2_makeKey_64 : decode cX2_makeKey 64 = .ok (.putfield 118, 3) := by decide +kernel
theorem dX2_makeKey_67 : decode cX2_makeKey 67 = .ok (.aload 4, 2) := by decide +kernel
theorem dX2_makeKey_69 : decode cX2_makeKey 69 = .ok (.aload_n 0, 1) := by decide +kernel
theorem dX2_makeKey_70 : decode cX2_makeKey 70 = .ok (.getfield 9, 3) := by decide +kernel
theorem dX2_makeKey_73 : decode cX2_makeKey 73 = .ok (.iconst 2, 1) := by decide +kernel
theorem dX2_makeKey_74 : decode cX2_makeKey 74 = .ok (.iaload, 1) := by decide +kernel
theorem dX2_makeKey_75 : decode cX2_makeKey 75 = .ok (.iload_n 3, 1) := by decide +kernel
theorem dX2_makeKey_76 : decode cX2_makeKey 76 = .ok (.isub, 1) := by decide +kernel
theorem dX2_makeKey_77 : decode cX2_makeKey 77 = .ok (.putfield 121, 3) := by decide +kernel
theorem dX2_makeKey_80 : decode cX2_makeKey 80 = .ok (.aload 4, 2) := by decide +kernel
theorem dX2_makeKey_82 : decode cX2_makeKey 82 = .ok (.iload_n 2, 1) := by decide +kernel
theorem dX2_makeKey_83 : decode cX2_makeKey 83 = .ok (.putfield 123, 3) := by decide +kernel
theorem dX2_makeKey_86 : decode cX2_makeKey 86 = .ok (.aload_n 0, 1) := by decide +kernel
theorem dX2_makeKey_87 : decode cX2_makeKey 87 = .ok (.dup, 1) := by decide +kernel
theorem dX2_makeKey_88 : decode cX2_makeKey 88 = .ok (.getfield 62, 3) := by decide +kernel
theorem dX2_makeKey_91 : decode cX2_makeKey 91 = .ok (.aload_n 0, 1) := by decide +kernel
theorem dX2_makeKey_92 : decode cX2_makeKey 92 = .ok (.getfield 9, 3) := by decide +kernel
theorem dX2_makeKey_95 : decode cX2_makeKey 95 = .ok (.iconst 2, 1) := by decide +kernel
theorem dX2_makeKey_96 : decode cX2_makeKey 96 = .ok (.iaload, 1) := by decide +kernel
theorem dX2_makeKey_97 : decode cX2_makeKey 97 = .ok (.iadd, 1) := by decide +kernel
theorem dX2_makeKey_98 : decode cX2_makeKey 98 = .ok (.putfield 62, 3) := by decide +kernel
theorem dX2_makeKey_101 : decode cX2_makeKey 101 = .ok (.aload_n 0, 1) := by decide +kernel
theorem dX2_makeKey_102 : decode cX2_makeKey 102 = .ok (.dup, 1) := by decide +kernel
theorem dX2_makeKey_103 : decode cX2_makeKey 103 = .ok (.getfield 59, 3) := by decide +kernel
theorem dX2_makeKey_106 : decode cX2_makeKey 106 = .ok (.iload_n 3, 1) := by decide +kernel
theorem dX2_makeKey_107 : decode cX2_makeKey 107 = .ok (.iadd, 1) := by decide +kernel
theorem dX2_makeKey_108 : decode cX2_makeKey 108 = .ok (.putfield 59, 3) := by decide +kernel
theorem dX2_makeKey_111 : decode cX2_makeKey 111 = .ok (.aload_n 0, 1) := by decide +kernel
theorem dX2_makeKey_112 : decode cX2_makeKey 112 = .ok (.dup, 1) := by decide +kernel
theorem dX2_makeKey_113 : decode cX2_makeKey 113 = .ok (.getfield 44, 3) := by decide +kernel
theorem dX2_makeKey_116 : decode cX2_makeKey 116 = .ok (.iconst 1, 1) := by decide +kernel
theorem dX2_makeKey_117 : decode cX2_makeKey 117 = .ok (.iadd, 1) := by decide +kernel
theorem dX2_makeKey_118 : decode cX2_makeKey 118 = .ok (.putfield 44, 3) := by decide +kernel
theorem dX2_makeKey_121 : decode cX2_makeKey 121 = .ok (.aload_n 0, 1) := by decide +kernel
theorem dX2_makeKey_122 : decode cX2_makeKey 122 = .ok (.getfield 44, 3) := by decide +kernel
theorem dX2_makeKey_125 : decode cX2_makeKey 125 = .ok (.iconst 1, 1) := by decide +kernel
theorem dX2_makeKey_126 : decode cX2_makeKey 126 = .ok (.isub, 1) := by decide +kernel
theorem dX2_makeKey_127 : decode cX2_makeKey 127 = .ok (.ireturn, 1) := by decide +kernel
theorem dX2_meltKey_0 : decode cX2_meltKey 0 = .ok (.aload_n 0, 1) := by decide +kernel
theorem dX2_meltKey_1 : decode cX2_meltKey 1 = .ok (.iload_n 1, 1) := by decide +kernel
theorem dX2_meltKey_2 : decode cX2_meltKey 2 = .ok (.invokevirtual 126, 3) := by decide +kernel
theorem dX2_meltKey_5 : decode cX2_meltKey 5 = .ok (.ifCond .ne 5, 3) := by decide +kernel
theorem dX2_meltKey_8 : decode cX2_meltKey 8 = .ok (.iconst (-1), 1) := by decide +kernel
theorem dX2_meltKey_9 : decode cX2_meltKey 9 = .ok (.ireturn, 1) := by decide +kernel
theorem dX2_meltKey_10 : decode cX2_meltKey 10 = .ok (.aload_n 0, 1) := by decide +kernel
theorem dX2_meltKey_11 : decode cX2_meltKey 11 = .ok (.getfield 23, 3) := by decide +kernel
theorem dX2_meltKey_14 : decode cX2_meltKey 14 = .ok (.iload_n 1, 1) := by decide +kernel
theorem dX2_meltKey_15 : decode cX2_meltKey 15 = .ok (.aaload, 1) := by decide +kernel
theorem dX2_meltKey_16 : decode cX2_meltKey 16 = .ok (.astore_n 2, 1) := by decide +kernel
theorem dX2_meltKey_17 : decode cX2_meltKey 17 = .ok (.aload_n 2, 1) := by decide +kernel
theorem dX2_meltKey_18 : decode cX2_meltKey 18 = .ok (.getfield 123, 3) := by decide +kernel
theorem dX2_meltKey_21 : decode cX2_meltKey 21 = .ok (.bipush 9, 2) := by decide +kernel
theorem dX2_meltKey_23 : decode cX2_meltKey 23 = .ok (.if_icmp .ne 6, 3) := by decide +kernel
theorem dX2_meltKey_26 : decode cX2_meltKey 26 = .ok (.bipush (-5), 2) := by decide +kernel
theorem dX2_meltKey_28 : decode cX2_meltKey 28 = .ok (.ireturn, 1) := by decide +kernel
theorem dX2_meltKey_29 : decode cX2_meltKey 29 = .ok (.aload_n 2, 1) := by decide +kernel
theorem dX2_meltKey_30 : decode cX2_meltKey 30 = .ok (.getfield 121, 3) := by decide +kernel
theorem dX2_meltKey_33 : decode cX2_meltKey 33 = .ok (.aload_n 0, 1) := by decide +kernel
theorem dX2_meltKey_34 : decode cX2_meltKey 34 = .ok (.getfield 9, 3) := by decide +kernel
theorem dX2_meltKey_37 : decode cX2_meltKey 37 = .ok (.iconst 1, 1) := by decide +kernel
theorem dX2_meltKey_38 : decode cX2_meltKey 38 = .ok (.iaload, 1) := by decide +kernel
theorem dX2_meltKey_39 : decode cX2_meltKey 39 = .ok (.invokestatic 98, 3) := by decide +kernel
theorem dX2_meltKey_42 : decode cX2_meltKey 42 = .ok (.istore_n 3, 1) := by decide +kernel
theorem dX2_meltKey_43 : decode cX2_meltKey 43 = .ok (.aload_n 0, 1) := by decide +kernel
theorem dX2_meltKey_44 : decode cX2_meltKey 44 = .ok (.dup, 1) := by decide +kernel
theorem dX2_meltKey_45 : decode cX2_meltKey 45 = .ok (.getfield 65, 3) := by decide +kernel
theorem dX2_meltKey_48 : decode cX2_meltKey 48 = .ok (.iload_n 3, 1) := by decide +kernel
theorem dX2_meltKey_49 : decode cX2_meltKey 49 = .ok (.iadd, 1) := by decide +kernel
theorem dX2_meltKey_50 : decode cX2_meltKey 50 = .ok (.putfield 65, 3) := by decide +kernel
theorem dX2_meltKey_53 : decode cX2_meltKey 53 = .ok (.aload_n 0, 1) := by decide +kernel
theorem dX2_meltKey_54 : decode cX2_meltKey 54 = .ok (.dup, 1) := by decide +kernel
theorem dX2_meltKey_55 : decode cX2_meltKey 55 = .ok (.getfield 59, 3) := by decide +kernel
theorem dX2_meltKey_58 : decode cX2_meltKey 58 = .ok (.aload_n 2, 1) := by decide +kernel
theorem dX2_meltKey_59 : decode cX2_meltKey 59 = .ok (.getfield 121, 3) := by decide +kernel
theorem dX2_meltKey_62 : decode cX2_meltKey 62 = .ok (.iload_n 3, 1) := by decide +kernel
theorem dX2_meltKey_63 : decode cX2_meltKey 63 = .ok (.isub, 1) := by decide +kernel
theorem dX2_meltKey_64 : decode cX2_meltKey 64 = .ok (.iadd, 1) := by decide +kernel
theorem dX2_meltKey_65 : decode cX2_meltKey 65 = .ok (.putfield 59, 3) := by decide +kernel
theorem dX2_meltKey_68 : decode cX2_meltKey 68 = .ok (.aload_n 2, 1) := by decide +kernel
theorem dX2_meltKey_69 : decode cX2_meltKey 69 = .ok (.iconst 0, 1) := by decide +kernel
theorem dX2_meltKey_70 : decode cX2_meltKey 70 = .ok (.putfield 121, 3) := by decide +kernel
theorem dX2_meltKey_73 : decode cX2_meltKey 73 = .ok (.aload_n 2, 1) := by decide +kernel
theorem dX2_meltKey_74 : decode cX2_meltKey 74 = .ok (.bipush 9, 2) := by decide +kernel
theorem dX2_meltKey_76 : decode cX2_meltKey 76 = .ok (.putfield 123, 3) := by decide +kernel
theorem dX2_meltKey_79 : decode cX2_meltKey 79 = .ok (.aload_n 0, 1) := by decide +kernel
theorem dX2_meltKey_80 : decode cX2_meltKey 80 = .ok (.getfield 59, 3) := by decide +kernel
theorem dX2_meltKey_83 : decode cX2_meltKey 83 = .ok (.ireturn, 1) := by decide +kernel
theorem dX2_takeKey_0 : decode cX2_takeKey 0 = .ok (.aload_n 0, 1) := by decide +kernel
theorem dX2_takeKey_1 : decode cX2_takeKey 1 = .ok (.iload_n 1, 1) := by decide +kernel
theorem dX2_takeKey_2 : decode cX2_takeKey 2 = .ok (.aload_n 0, 1) := by decide +kernel
theorem dX2_takeKey_3 : decode cX2_takeKey 3 = .ok (.getfield 53, 3) := by decide +kernel
theorem dX2_takeKey_6 : decode cX2_takeKey 6 = .ok (.bipush 8, 2) := by decide +kernel
theorem dX2_takeKey_8 : decode cX2_takeKey 8 = .ok (.invokevirtual 129, 3) := by decide +kernel
theorem dX2_takeKey_11 : decode cX2_takeKey 11 = .ok (.ireturn, 1) := by decide +kernel
theorem dX2_layKeyDown_0 : decode cX2_layKeyDown 0 = .ok (.aload_n 0, 1) := by decide +kernel
theorem dX2_layKeyDown_1 : decode cX2_layKeyDown 1 = .ok (.iload_n 1, 1) := by decide +kernel
theorem dX2_layKeyDown_2 : decode cX2_layKeyDown 2 = .ok (.bipush 8, 2) := by decide +kernel
theorem dX2_layKeyDown_4 : decode cX2_layKeyDown 4 = .ok (.aload_n 0, 1) := by decide +kernel
theorem dX2_layKeyDown_5 : decode cX2_layKeyDown 5 = .ok (.getfield 53, 3) := by decide +kernel
theorem dX2_layKeyDown_8 : decode cX2_layKeyDown 8 = .ok (.invokevirtual 129, 3) := by decide +kernel
theorem dX2_layKeyDown_11 : decode cX2_layKeyDown 11 = .ok (.ireturn, 1) := by decide +kernel
theorem dX2_moveKey_0 : decode cX2_moveKey 0 = .ok (.aload_n 0, 1) := by decide +kernel
theorem dX2_moveKey_1 : decode cX2_moveKey 1 = .ok (.iload_n 1, 1) := by decide +kernel
theorem dX2_moveKey_2 : decode cX2_moveKey 2 = .ok (.invokevirtual 126, 3) := by decide +kernel
theorem dX2_moveKey_5 : decode cX2_moveKey 5 = .ok (.ifCond .ne 5, 3) := by decide +kernel
theorem dX2_moveKey_8 : decode cX2_moveKey 8 = .ok (.iconst (-1), 1) := by decide +kernel
theorem dX2_moveKey_9 : decode cX2_moveKey 9 = .ok (.ireturn, 1) := by decide +kernel
theorem dX2_moveKey_10 : decode cX2_moveKey 10 = .ok (.aload_n 0, 1) := by decide +kernel
theorem dX2_moveKey_11 : decode cX2_moveKey 11 = .ok (.getfield 23, 3) := by decide +kernel
theorem dX2_moveKey_14 : decode cX2_moveKey 14 = .ok (.iload_n 1, 1) := by decide +kernel
theorem dX2_moveKey_15 : decode cX2_moveKey 15 = .ok (.aaload, 1) := by decide +kernel
theorem dX2_moveKey_16 : decode cX2_moveKey 16 = .ok (.getfield 123, 3) := by decide +kernel
theorem dX2_moveKey_19 : decode cX2_moveKey 19 = .ok (.iload_n 2, 1) := by decide +kernel
theorem dX2_moveKey_20 : decode cX2_moveKey 20 = .ok (.if_icmp .eq 6, 3) := by decide +kernel
theorem dX2_moveKey_23 : decode cX2_moveKey 23 = .ok (.bipush (-5), 2) := by decide +kernel
theorem dX2_moveKey_25 : decode cX2_moveKey 25 = .ok (.ireturn, 1) := by decide +kernel
theorem dX2_moveKey_26 : decode cX2_moveKey 26 = .ok (.aload_n 0, 1) := by decide +kernel
theorem dX2_moveKey_27 : decode cX2_moveKey 27 = .ok (.getfield 23, 3) := by decide +kernel
theorem dX2_moveKey_30 : decode cX2_moveKey 30 = .ok (.iload_n 1, 1) := by decide +kernel
theorem dX2_moveKey_31 : decode cX2_moveKey 31 = .ok (.aaload, 1) := by decide +kernel
theorem dX2_moveKey_32 : decode cX2_moveKey 32 = .ok (.iload_n 3, 1) := by decide +kernel
theorem dX2_moveKey_33 : decode cX2_moveKey 33 = .ok (.putfield 123, 3) := by decide +kernel
theorem dX2_moveKey_36 : decode cX2_moveKey 36 = .ok (.aload_n 0, 1) := by decide +kernel
theorem dX2_moveKey_37 : decode cX2_moveKey 37 = .ok (.bipush 8, 2) := by decide +kernel
theorem dX2_moveKey_39 : decode cX2_moveKey 39 = .ok (.invokevirtual 133, 3) := by decide +kernel
theorem dX2_moveKey_42 : decode cX2_moveKey 42 = .ok (.ireturn, 1) := by decide +kernel
theorem dX2_walkThrough_0 : decode cX2_walkThrough 0 = .ok (.aload_n 0, 1) := by decide +kernel
theorem dX2_walkThrough_1 : decode cX2_walkThrough 1 = .ok (.iload_n 1, 1) := by decide +kernel
theorem dX2_walkThrough_2 : decode cX2_walkThrough 2 = .ok (.invokevirtual 91, 3) := by decide +kernel
theorem dX2_walkThrough_5 : decode cX2_walkThrough 5 = .ok (.ifCond .ne 5, 3) := by decide +kernel
theorem dX2_walkThrough_8 : decode cX2_walkThrough 8 = .ok (.iconst (-1), 1) := by decide +kernel
theorem dX2_walkThrough_9 : decode cX2_walkThrough 9 = .ok (.ireturn, 1) := by decide +kernel
theorem dX2_walkThrough_10 : decode cX2_walkThrough 10 = .ok (.aload_n 0, 1) := by decide +kernel
theorem dX2_walkThrough_11 : decode cX2_walkThrough 11 = .ok (.getfield 17, 3) := by decide +kernel
theorem dX2_walkThrough_14 : decode cX2_walkThrough 14 = .ok (.iload_n 1, 1) := by decide +kernel
theorem dX2_walkThrough_15 : decode cX2_walkThrough 15 = .ok (.aaload, 1) := by decide +kernel
theorem dX2_walkThrough_16 : decode cX2_walkThrough 16 = .ok (.aload_n 0, 1) := by decide +kernel
theorem dX2_walkThrough_17 : decode cX2_walkThrough 17 = .ok (.getfield 53, 3) := by decide +kernel
theorem dX2_walkThrough_20 : decode cX2_walkThrough 20 = .ok (.invokevirtual 136, 3) := by decide +kernel
theorem dX2_walkThrough_23 : decode cX2_walkThrough 23 = .ok (.istore_n 2, 1) := by decide +kernel
theorem dX2_walkThrough_24 : decode cX2_walkThrough 24 = .ok (.iload_n 2, 1) := by decide +kernel
theorem dX2_walkThrough_25 : decode cX2_walkThrough 25 = .ok (.bipush (-6), 2) := by decide +kernel
theorem dX2_walkThrough_27 : decode cX2_walkThrough 27 = .ok (.if_icmp .eq 18, 3) := by decide +kernel
theorem dX2_walkThrough_30 : decode cX2_walkThrough 30 = .ok (.aload_n 0, 1) := by decide +kernel
theorem dX2_walkThrough_31 : decode cX2_walkThrough 31 = .ok (.iload_n 1, 1) := by decide +kernel
theorem dX2_walkThrough_32 : decode cX2_walkThrough 32 = .ok (.invokevirtual 139, 3) := by decide +kernel
theorem dX2_walkThrough_35 : decode cX2_walkThrough 35 = .ok (.aload_n 0, 1) := by decide +kernel
theorem dX2_walkThrough_36 : decode cX2_walkThrough 36 = .ok (.bipush 8, 2) := by decide +kernel
theorem dX2_walkThrough_38 : decode cX2_walkThrough 38 = .ok (.invokevirtual 133, 3) := by decide +kernel
theorem dX2_walkThrough_41 : decode cX2_walkThrough 41 = .ok (.iand, 1) := by decide +kernel
theorem dX2_walkThrough_42 : decode cX2_walkThrough 42 = .ok (.ifCond .ne 6, 3) := by decide +kernel
theorem dX2_walkThrough_45 : decode cX2_walkThrough 45 = .ok (.bipush (-5), 2) := by decide +kernel
theorem dX2_walkThrough_47 : decode cX2_walkThrough 47 = .ok (.ireturn, 1) := by decide +kernel
theorem dX2_walkThrough_48 : decode cX2_walkThrough 48 = .ok (.aload_n 0, 1) := by decide +kernel
theorem dX2_walkThrough_49 : decode cX2_walkThrough 49 = .ok (.iload_n 2, 1) := by decide +kernel
theorem dX2_walkThrough_50 : decode cX2_walkThrough 50 = .ok (.putfield 53, 3) := by decide +kernel
theorem dX2_walkThrough_53 : decode cX2_walkThrough 53 = .ok (.aload_n 0, 1) := by decide +kernel
theorem dX2_walkThrough_54 : decode cX2_walkThrough 54 = .ok (.dup, 1) := by decide +kernel
theorem dX2_walkThrough_55 : decode cX2_walkThrough 55 = .ok (.getfield 56, 3) := by decide +kernel
theorem dX2_walkThrough_58 : decode cX2_walkThrough 58 = .ok (.iconst 1, 1) := by decide +kernel
theorem dX2_walkThrough_59 : decode cX2_walkThrough 59 = .ok (.iadd, 1) := by decide +kernel
theorem dX2_walkThrough_60 : decode cX2_walkThrough 60 = .ok (.putfield 56, 3) := by decide +kernel
theorem dX2_walkThrough_63 : decode cX2_walkThrough 63 = .ok (.aload_n 0, 1) := by decide +kernel
theorem dX2_walkThrough_64 : decode cX2_walkThrough 64 = .ok (.getfield 53, 3) := by decide +kernel
theorem dX2_walkThrough_67 : decode cX2_walkThrough 67 = .ok (.ireturn, 1) := by decide +kernel
theorem dX2_planCut_0 : decode cX2_planCut 0 = .ok (.aload_n 0, 1) := by decide +kernel
theorem dX2_planCut_1 : decode cX2_planCut 1 = .ok (.iload_n 1, 1) := by decide +kernel
theorem dX2_planCut_2 : decode cX2_planCut 2 = .ok (.invokevirtual 91, 3) := by decide +kernel
theorem dX2_planCut_5 : decode cX2_planCut 5 = .ok (.ifCond .ne 5, 3) := by decide +kernel
theorem dX2_planCut_8 : decode cX2_planCut 8 = .ok (.iconst (-1), 1) := by decide +kernel
theorem dX2_planCut_9 : decode cX2_planCut 9 = .ok (.ireturn, 1) := by decide +kernel
theorem dX2_planCut_10 : decode cX2_planCut 10 = .ok (.iload_n 2, 1) := by decide +kernel
theorem dX2_planCut_11 : decode cX2_planCut 11 = .ok (.invokestatic 78, 3) := by decide +kernel
theorem dX2_planCut_14 : decode cX2_planCut 14 = .ok (.ifCond .eq 10, 3) := by decide +kernel
theorem dX2_planCut_17 : decode cX2_planCut 17 = .ok (.iload_n 3, 1) := by decide +kernel
theorem dX2_planCut_18 : decode cX2_planCut 18 = .ok (.invokestatic 78, 3) := by decide +kernel
theorem dX2_planCut_21 : decode cX2_planCut 21 = .ok (.ifCond .ne 6, 3) := by decide +kernel
theorem dX2_planCut_24 : decode cX2_planCut 24 = .ok (.bipush (-2), 2) := by decide +kernel
theorem dX2_planCut_26 : decode cX2_planCut 26 = .ok (.ireturn, 1) := by decide +kernel
theorem dX2_planCut_27 : decode cX2_planCut 27 = .ok (.aload_n 0, 1) := by decide +kernel
theorem dX2_planCut_28 : decode cX2_planCut 28 = .ok (.getfield 30, 3) := by decide +kernel
theorem dX2_planCut_31 : decode cX2_planCut 31 = .ok (.getfield 142, 3) := by decide +kernel
theorem dX2_planCut_34 : decode cX2_planCut 34 = .ok (.bipush 6, 2) := by decide +kernel
theorem dX2_planCut_36 : decode cX2_planCut 36 = .ok (.if_icmp .lt 6, 3) := by decide +kernel
theorem dX2_planCut_39 : decode cX2_planCut 39 = .ok (.bipush (-4), 2) := by decide +kernel
theorem dX2_planCut_41 : decode cX2_planCut 41 = .ok (.ireturn, 1) := by decide +kernel
theorem dX2_planCut_42 : decode cX2_planCut 42 = .ok (.aload_n 0, 1) := by decide +kernel
theorem dX2_planCut_43 : decode cX2_planCut 43 = .ok (.getfield 30, 3) := by decide +kernel
theorem dX2_planCut_46 : decode cX2_planCut 46 = .ok (.iload_n 1, 1) := by decide +kernel
theorem dX2_planCut_47 : decode cX2_planCut 47 = .ok (.invokevirtual 145, 3) := by decide +kernel
theorem dX2_planCut_50 : decode cX2_planCut 50 = .ok (.bipush (-6), 2) := by decide +kernel
theorem dX2_planCut_52 : decode cX2_planCut 52 = .ok (.if_icmp .eq 6, 3) := by decide +kernel
theorem dX2_planCut_55 : decode cX2_planCut 55 = .ok (.bipush (-5), 2) := by decide +kernel
theorem dX2_planCut_57 : decode cX2_planCut 57 = .ok (.ireturn, 1) := by decide +kernel
theorem dX2_planCut_58 : decode cX2_planCut 58 = .ok (.aload_n 0, 1) := by decide +kernel
theorem dX2_planCut_59 : decode cX2_planCut 59 = .ok (.getfield 30, 3) := by decide +kernel
theorem dX2_planCut_62 : decode cX2_planCut 62 = .ok (.getfield 148, 3) := by decide +kernel
theorem dX2_planCut_65 : decode cX2_planCut 65 = .ok (.aload_n 0, 1) := by decide +kernel
theorem dX2_planCut_66 : decode cX2_planCut 66 = .ok (.getfield 30, 3) := by decide +kernel
theorem dX2_planCut_69 : decode cX2_planCut 69 = .ok (.getfield 142, 3) := by decide +kernel
theorem dX2_planCut_72 : decode cX2_planCut 72 = .ok (.iload_n 1, 1) := by decide +kernel
theorem dX2_planCut_73 : decode cX2_planCut 73 = .ok (.iastore, 1) := by decide +kernel
theorem dX2_planCut_74 : decode cX2_planCut 74 = .ok (.aload_n 0, 1) := by decide +kernel
theorem dX2_planCut_75 : decode cX2_planCut 75 = .ok (.getfield 30, 3) := by decide +kernel
theorem dX2_planCut_78 : decode cX2_planCut 78 = .ok (.getfield 150, 3) := by decide +kernel
theorem dX2_planCut_81 : decode cX2_planCut 81 = .ok (.aload_n 0, 1) := by decide +kernel
theorem dX2_planCut_82 : decode cX2_planCut 82 = .ok (.getfield 30, 3) := by decide +kernel
theorem dX2_planCut_85 : decode cX2_planCut 85 = .ok (.getfield 142, 3) := by decide +kernel
theorem dX2_planCut_88 : decode cX2_planCut 88 = .ok (.iload_n 2, 1) := by decide +kernel
theorem dX2_planCut_89 : decode cX2_planCut 89 = .ok (.iastore, 1) := by decide +kernel
theorem dX2_planCut_90 : decode cX2_planCut 90 = .ok (.aload_n 0, 1) := by decide +kernel
theorem dX2_planCut_91 : decode cX2_planCut 91 = .ok (.getfield 30, 3) := by decide +kernel
theorem dX2_planCut_94 : decode cX2_planCut 94 = .ok (.getfield 153, 3) := by decide +kernel
theorem dX2_planCut_97 : decode cX2_planCut 97 = .ok (.aload_n 0, 1) := by decide +kernel
theorem dX2_planCut_98 : decode cX2_planCut 98 = .ok (.getfield 30, 3) := by decide +kernel
theorem dX2_planCut_101 : decode cX2_planCut 101 = .ok (.getfield 142, 3) := by decide +kernel
theorem dX2_planCut_104 : decode cX2_planCut 104 = .ok (.iload_n 3, 1) := by decide +kernel
theorem dX2_planCut_105 : decode cX2_planCut 105 = .ok (.iastore, 1) := by decide +kernel
theorem dX2_planCut_106 : decode cX2_planCut 106 = .ok (.aload_n 0, 1) := by decide +kernel
theorem dX2_planCut_107 : decode cX2_planCut 107 = .ok (.getfield 30, 3) := by decide +kernel
theorem dX2_planCut_110 : decode cX2_planCut 110 = .ok (.dup, 1) := by decide +kernel
theorem dX2_planCut_111 : decode cX2_planCut 111 = .ok (.getfield 142, 3) := by decide +kernel
theorem dX2_planCut_114 : decode cX2_planCut 114 = .ok (.iconst 1, 1) := by decide +kernel
theorem dX2_planCut_115 : decode cX2_planCut 115 = .ok (.iadd, 1) := by decide +kernel
theorem dX2_planCut_116 : decode cX2_planCut 116 = .ok (.putfield 142, 3) := by decide +kernel
theorem dX2_planCut_119 : decode cX2_planCut 119 = .ok (.aload_n 0, 1) := by decide +kernel
theorem dX2_planCut_120 : decode cX2_planCut 120 = .ok (.getfield 30, 3) := by decide +kernel
theorem dX2_planCut_123 : decode cX2_planCut 123 = .ok (.getfield 142, 3) := by decide +kernel
theorem dX2_planCut_126 : decode cX2_planCut 126 = .ok (.ireturn, 1) := by decide +kernel
theorem dX2_emptyPlan_0 : decode cX2_emptyPlan 0 = .ok (.aload_n 0, 1) := by decide +kernel
theorem dX2_emptyPlan_1 : decode cX2_emptyPlan 1 = .ok (.getfield 30, 3) := by decide +kernel
theorem dX2_emptyPlan_4 : decode cX2_emptyPlan 4 = .ok (.getfield 142, 3) := by decide +kernel
theorem dX2_emptyPlan_7 : decode cX2_emptyPlan 7 = .ok (.istore_n 1, 1) := by decide +kernel
theorem dX2_emptyPlan_8 : decode cX2_emptyPlan 8 = .ok (.aload_n 0, 1) := by decide +kernel
theorem dX2_emptyPlan_9 : decode cX2_emptyPlan 9 = .ok (.getfield 30, 3) := by decide +kernel
theorem dX2_emptyPlan_12 : decode cX2_emptyPlan 12 = .ok (.iconst 0, 1) := by decide +kernel
theorem dX2_emptyPlan_13 : decode cX2_emptyPlan 13 = .ok (.putfield 142, 3) := by decide +kernel
theorem dX2_emptyPlan_16 : decode cX2_emptyPlan 16 = .ok (.iload_n 1, 1) := by decide +kernel
theorem dX2_emptyPlan_17 : decode cX2_emptyPlan 17 = .ok (.ireturn, 1) := by decide +kernel
theorem dX2_carryPlanned_0 : decode cX2_carryPlanned 0 = .ok (.iload_n 1, 1) := by decide +kernel
theorem dX2_carryPlanned_1 : decode cX2_carryPlanned 1 = .ok (.ifCond .lt 14, 3) := by decide +kernel
theorem dX2_carryPlanned_4 : decode cX2_carryPlanned 4 = .ok (.iload_n 1, 1) := by decide +kernel
theorem dX2_carryPlanned_5 : decode cX2_carryPlanned 5 = .ok (.aload_n 0, 1) := by decide +kernel
theorem dX2_carryPlanned_6 : decode cX2_carryPlanned 6 = .ok (.getfield 30, 3) := by decide +kernel
theorem dX2_carryPlanned_9 : decode cX2_carryPlanned 9 = .ok (.getfield 142, 3) := by decide +kernel
theorem dX2_carryPlanned_12 : decode cX2_carryPlanned 12 = .ok (.if_icmp .lt 5, 3) := by decide +kernel
theorem dX2_carryPlanned_15 : decode cX2_carryPlanned 15 = .ok (.iconst (-1), 1) := by decide +kernel
theorem dX2_carryPlanned_16 : decode cX2_carryPlanned 16 = .ok (.ireturn, 1) := by decide +kernel
theorem dX2_carryPlanned_17 : decode cX2_carryPlanned 17 = .ok (.aload_n 0, 1) := by decide +kernel
theorem dX2_carryPlanned_18 : decode cX2_carryPlanned 18 = .ok (.aload_n 0, 1) := by decide +kernel
theorem dX2_carryPlanned_19 : decode cX2_carryPlanned 19 = .ok (.getfield 30, 3) := by decide +kernel
theorem dX2_carryPlanned_22 : decode cX2_carryPlanned 22 = .ok (.getfield 148, 3) := by decide +kernel
theorem dX2_carryPlanned_25 : decode cX2_carryPlanned 25 = .ok (.iload_n 1, 1) := by decide +kernel
theorem dX2_carryPlanned_26 : decode cX2_carryPlanned 26 = .ok (.iaload, 1) := by decide +kernel
theorem dX2_carryPlanned_27 : decode cX2_carryPlanned 27 = .ok (.aload_n 0, 1) := by decide +kernel
theorem dX2_carryPlanned_28 : decode cX2_carryPlanned 28 = .ok (.getfield 30, 3) := by decide +kernel
theorem dX2_carryPlanned_31 : decode cX2_carryPlanned 31 = .ok (.getfield 150, 3) := by decide +kernel
theorem dX2_carryPlanned_34 : decode cX2_carryPlanned 34 = .ok (.iload_n 1, 1) := by decide +kernel
theorem dX2_carryPlanned_35 : decode cX2_carryPlanned 35 = .ok (.iaload, 1) := by decide +kernel
theorem dX2_carryPlanned_36 : decode cX2_carryPlanned 36 = .ok (.aload_n 0, 1) := by decide +kernel
theorem dX2_carryPlanned_37 : decode cX2_carryPlanned 37 = .ok (.getfield 30, 3) := by decide +kernel
theorem dX2_carryPlanned_40 : decode cX2_carryPlanned 40 = .ok (.getfield 153, 3) := by decide +kernel
theorem dX2_carryPlanned_43 : decode cX2_carryPlanned 43 = .ok (.iload_n 1, 1) := by decide +kernel
theorem dX2_carryPlanned_44 : decode cX2_carryPlanned 44 = .ok (.iaload, 1) := by decide +kernel
theorem dX2_carryPlanned_45 : decode cX2_carryPlanned 45 = .ok (.invokevirtual 156, 3) := by decide +kernel
theorem dX2_carryPlanned_48 : decode cX2_carryPlanned 48 = .ok (.ireturn, 1) := by decide +kernel
theorem dX2_obey_0 : decode cX2_obey 0 = .ok (.aload_n 1, 1) := by decide +kernel
theorem dX2_obey_1 : decode cX2_obey 1 = .ok (.getfield 159, 3) := by decide +kernel
theorem dX2_obey_4 : decode cX2_obey 4 = .ok (.tableswitch 158 98 116 #[149, 105, 158, 158, 158, 140, 158, 158, 158, 92, 158, 158, 158, 158, 131, 158, 158, 158, 122], 92) := by decide +kernel
theorem dX2_obey_96 : decode cX2_obey 96 = .ok (.aload_n 0, 1) := by decide +kernel
theorem dX2_obey_97 : decode cX2_obey 97 = .ok (.aload_n 1, 1) := by decide +kernel
theorem dX2_obey_98 : decode cX2_obey 98 = .ok (.getfield 165, 3) := by decide +kernel
theorem dX2_obey_101 : decode cX2_obey 101 = .ok (.aload_n 0, 1) := by decide +kernel
theorem dX2_obey_102 : decode cX2_obey 102 = .ok (.getfield 53, 3) := by decide +kernel
theorem dX2_obey_105 : decode cX2_obey 105 = .ok (.invokevirtual 166, 3) := by decide +kernel
theorem dX2_obey_108 : decode cX2_obey 108 = .ok (.ireturn, 1) := by decide +kernel
theorem dX2_obey_109 : decode cX2_obey 109 = .ok (.aload_n 0, 1) := by decide +kernel
theorem dX2_obey_110 : decode cX2_obey 110 = .ok (.aload_n 1, 1) := by decide +kernel
theorem dX2_obey_111 : decode cX2_obey 111 = .ok (.getfield 169, 3) := by decide +kernel
theorem dX2_obey_114 : decode cX2_obey 114 = .ok (.aload_n 1, 1) := by decide +kernel
theorem dX2_obey_115 : decode cX2_obey 115 = .ok (.getfield 165, 3) := by decide +kernel
theorem dX2_obey_118 : decode cX2_obey 118 = .ok (.aload_n 1, 1) := by decide +kernel
theorem dX2_obey_119 : decode cX2_obey 119 = .ok (.getfield 172, 3) := by decide +kernel
theorem dX2_obey_122 : decode cX2_obey 122 = .ok (.invokevirtual 156, 3) := by decide +kernel
theorem dX2_obey_125 : decode cX2_obey 125 = .ok (.ireturn, 1) := by decide +kernel
theorem dX2_obey_126 : decode cX2_obey 126 = .ok (.aload_n 0, 1) := by decide +kernel
theorem dX2_obey_127 : decode cX2_obey 127 = .ok (.aload_n 1, 1) := by decide +kernel
theorem dX2_obey_128 : decode cX2_obey 128 = .ok (.getfield 169, 3) := by decide +kernel
theorem dX2_obey_131 : decode cX2_obey 131 = .ok (.invokevirtual 173, 3) := by decide +kernel
theorem dX2_obey_134 : decode cX2_obey 134 = .ok (.ireturn, 1) := by decide +kernel
theorem dX2_obey_135 : decode cX2_obey 135 = .ok (.aload_n 0, 1) := by decide +kernel
theorem dX2_obey_136 : decode cX2_obey 136 = .ok (.aload_n 1, 1) := by decide +kernel
theorem dX2_obey_137 : decode cX2_obey 137 = .ok (.getfield 169, 3) := by decide +kernel
theorem dX2_obey_140 : decode cX2_obey 140 = .ok (.invokevirtual 176, 3) := by decide +kernel
theorem dX2_obey_143 : decode cX2_obey 143 = .ok (.ireturn, 1) := by decide +kernel
theorem dX2_obey_144 : decode cX2_obey 144 = .ok (.aload_n 0, 1) := by decide +kernel
theorem dX2_obey_145 : decode cX2_obey 145 = .ok (.aload_n 1, 1) := by decide +kernel
theorem dX2_obey_146 : decode cX2_obey 146 = .ok (.getfield 169, 3) := by decide +kernel
theorem dX2_obey_149 : decode cX2_obey 149 = .ok (.invokevirtual 179, 3) := by decide +kernel
theorem dX2_obey_152 : decode cX2_obey 152 = .ok (.ireturn, 1) := by decide +kernel
theorem dX2_obey_153 : decode cX2_obey 153 = .ok (.aload_n 0, 1) := by decide +kernel
theorem dX2_obey_154 : decode cX2_obey 154 = .ok (.aload_n 1, 1) := by decide +kernel
theorem dX2_obey_155 : decode cX2_obey 155 = .ok (.getfield 169, 3) := by decide +kernel
theorem dX2_obey_158 : decode cX2_obey 158 = .ok (.invokevirtual 182, 3) := by decide +kernel
theorem dX2_obey_161 : decode cX2_obey 161 = .ok (.ireturn, 1) := by decide +kernel
theorem dX2_obey_162 : decode cX2_obey 162 = .ok (.bipush (-3), 2) := by decide +kernel
theorem dX2_obey_164 : decode cX2_obey 164 = .ok (.ireturn, 1) := by decide +kernel
theorem dX2_keysAt_0 : decode cX2_keysAt 0 = .ok (.iconst 0, 1) := by decide +kernel
theorem dX2_keysAt_1 : decode cX2_keysAt 1 = .ok (.istore_n 2, 1) := by decide +kernel
theorem dX2_keysAt_2 : decode cX2_keysAt 2 = .ok (.iconst 0, 1) := by decide +kernel
theorem dX2_keysAt_3 : decode cX2_keysAt 3 = .ok (.istore_n 3, 1) := by decide +kernel
theorem dX2_keysAt_4 : decode cX2_keysAt 4 = .ok (.iload_n 3, 1) := by decide +kernel
theorem dX2_keysAt_5 : decode cX2_keysAt 5 = .ok (.aload_n 0, 1) := by decide +kernel
theorem dX2_keysAt_6 : decode cX2_keysAt 6 = .ok (.getfield 44, 3) := by decide +kernel
theorem dX2_keysAt_9 : decode cX2_keysAt 9 = .ok (.if_icmp .ge 28, 3) := by decide +kernel
theorem dX2_keysAt_12 : decode cX2_keysAt 12 = .ok (.aload_n 0, 1) := by decide +kernel
theorem dX2_keysAt_13 : decode cX2_keysAt 13 = .ok (.getfield 23, 3) := by decide +kernel
theorem dX2_keysAt_16 : decode cX2_keysAt 16 = .ok (.iload_n 3, 1) := by decide +kernel
theorem dX2_keysAt_17 : decode cX2_keysAt 17 = .ok (.aaload, 1) := by decide +kernel
theorem dX2_keysAt_18 : decode cX2_keysAt 18 = .ok (.getfield 123, 3) := by decide +kernel
theorem dX2_keysAt_21 : decode cX2_keysAt 21 = .ok (.iload_n 1, 1) := by decide +kernel
theorem dX2_keysAt_22 : decode cX2_keysAt 22 = .ok (.if_icmp .ne 9, 3) := by decide +kernel
theorem dX2_keysAt_25 : decode cX2_keysAt 25 = .ok (.iload_n 2, 1) := by decide +kernel
theorem dX2_keysAt_26 : decode cX2_keysAt 26 = .ok (.iconst 1, 1) := by decide +kernel
theorem dX2_keysAt_27 : decode cX2_keysAt 27 = .ok (.iload_n 3, 1) := by decide +kernel
theorem dX2_keysAt_28 : decode cX2_keysAt 28 = .ok (.ishl, 1) := by decide +kernel
theorem dX2_keysAt_29 : decode cX2_keysAt 29 = .ok (.ior, 1) := by decide +kernel
theorem dX2_keysAt_30 : decode cX2_keysAt 30 = .ok (.istore_n 2, 1) := by decide +kernel
theorem dX2_keysAt_31 : decode cX2_keysAt 31 = .ok (.iinc 3 1, 3) := by decide +kernel
theorem dX2_keysAt_34 : decode cX2_keysAt 34 = .ok (.goto (-30), 3) := by decide +kernel
theorem dX2_keysAt_37 : decode cX2_keysAt 37 = .ok (.iload_n 2, 1) := by decide +kernel
theorem dX2_keysAt_38 : decode cX2_keysAt 38 = .ok (.ireturn, 1) := by decide +kernel
theorem dX2_keysOpening_0 : decode cX2_keysOpening 0 = .ok (.iconst 0, 1) := by decide +kernel
theorem dX2_keysOpening_1 : decode cX2_keysOpening 1 = .ok (.istore_n 2, 1) := by decide +kernel
theorem dX2_keysOpening_2 : decode cX2_keysOpening 2 = .ok (.iconst 0, 1) := by decide +kernel
theorem dX2_keysOpening_3 : decode cX2_keysOpening 3 = .ok (.istore_n 3, 1) := by decide +kernel
theorem dX2_keysOpening_4 : decode cX2_keysOpening 4 = .ok (.iload_n 3, 1) := by decide +kernel
theorem dX2_keysOpening_5 : decode cX2_keysOpening 5 = .ok (.aload_n 0, 1) := by decide +kernel
theorem dX2_keysOpening_6 : decode cX2_keysOpening 6 = .ok (.getfield 44, 3) := by decide +kernel
theorem dX2_keysOpening_9 : decode cX2_keysOpening 9 = .ok (.if_icmp .ge 50, 3) := by decide +kernel
theorem dX2_keysOpening_12 : decode cX2_keysOpening 12 = .ok (.aload_n 0, 1) := by decide +kernel
theorem dX2_keysOpening_13 : decode cX2_keysOpening 13 = .ok (.getfield 23, 3) := by decide +kernel
theorem dX2_keysOpening_16 : decode cX2_keysOpening 16 = .ok (.iload_n 3, 1) := by decide +kernel
theorem dX2_keysOpening_17 : decode cX2_keysOpening 17 = .ok (.aaload, 1) := by decide +kernel
theorem dX2_keysOpening_18 : decode cX2_keysOpening 18 = .ok (.getfield 123, 3) := by decide +kernel
theorem dX2_keysOpening_21 : decode cX2_keysOpening 21 = .ok (.bipush 9, 2) := by decide +kernel
theorem dX2_keysOpening_23 : decode cX2_keysOpening 23 = .ok (.if_icmp .eq 30, 3) := by decide +kernel
theorem dX2_keysOpening_26 : decode cX2_keysOpening 26 = .ok (.aload_n 0, 1) := by decide +kernel
theorem dX2_keysOpening_27 : decode cX2_keysOpening 27 = .ok (.getfield 17, 3) := by decide +kernel
theorem dX2_keysOpening_30 : decode cX2_keysOpening 30 = .ok (.iload_n 1, 1) := by decide +kernel
theorem dX2_keysOpening_31 : decode cX2_keysOpening 31 = .ok (.aaload, 1) := by decide +kernel
theorem dX2_keysOpening_32 : decode cX2_keysOpening 32 = .ok (.aload_n 0, 1) := by decide +kernel
theorem dX2_keysOpening_33 : decode cX2_keysOpening 33 = .ok (.getfield 23, 3) := by decide +kernel
theorem dX2_keysOpening_36 : decode cX2_keysOpening 36 = .ok (.iload_n 3, 1) := by decide +kernel
theorem dX2_keysOpening_37 : decode cX2_keysOpening 37 = .ok (.aaload, 1) := by decide +kernel
theorem dX2_keysOpening_38 : decode cX2_keysOpening 38 = .ok (.getfield 118, 3) := by decide +kernel
theorem dX2_keysOpening_41 : decode cX2_keysOpening 41 = .ok (.invokevirtual 185, 3) := by decide +kernel
theorem dX2_keysOpening_44 : decode cX2_keysOpening 44 = .ok (.ifCond .eq 9, 3) := by decide +kernel
theorem dX2_keysOpening_47 : decode cX2_keysOpening 47 = .ok (.iload_n 2, 1) := by decide +kernel
theorem dX2_keysOpening_48 : decode cX2_keysOpening 48 = .ok (.iconst 1, 1) := by decide +kernel
theorem dX2_keysOpening_49 : decode cX2_keysOpening 49 = .ok (.iload_n 3, 1) := by decide +kernel
theorem dX2_keysOpening_50 : decode cX2_keysOpening 50 = .ok (.ishl, 1) := by decide +kernel
theorem dX2_keysOpening_51 : decode cX2_keysOpening 51 = .ok (.ior, 1) := by decide +kernel
theorem dX2_keysOpening_52 : decode cX2_keysOpening 52 = .ok (.istore_n 2, 1) := by decide +kernel
theorem dX2_keysOpening_53 : decode cX2_keysOpening 53 = .ok (.iinc 3 1, 3) := by decide +kernel
theorem dX2_keysOpening_56 : decode cX2_keysOpening 56 = .ok (.goto (-52), 3) := by decide +kernel
theorem dX2_keysOpening_59 : decode cX2_keysOpening 59 = .ok (.iload_n 2, 1) := by decide +kernel
theorem dX2_keysOpening_60 : decode cX2_keysOpening 60 = .ok (.ireturn, 1) := by decide +kernel
theorem dX2_doorsOpenedBy_0 : decode cX2_doorsOpenedBy 0 = .ok (.iconst 0, 1) := by decide +kernel
theorem dX2_doorsOpenedBy_1 : decode cX2_doorsOpenedBy 1 = .ok (.istore_n 2, 1) := by decide +kernel
theorem dX2_doorsOpenedBy_2 : decode cX2_doorsOpenedBy 2 = .ok (.iconst 0, 1) := by decide +kernel
theorem dX2_doorsOpenedBy_3 : decode cX2_doorsOpenedBy 3 = .ok (.istore_n 3, 1) := by decide +kernel
theorem dX2_doorsOpenedBy_4 : decode cX2_doorsOpenedBy 4 = .ok (.iload_n 3, 1) := by decide +kernel
theorem dX2_doorsOpenedBy_5 : decode cX2_doorsOpenedBy 5 = .ok (.aload_n 0, 1) := by decide +kernel
theorem dX2_doorsOpenedBy_6 : decode cX2_doorsOpenedBy 6 = .ok (.getfield 36, 3) := by decide +kernel
theorem dX2_doorsOpenedBy_9 : decode cX2_doorsOpenedBy 9 = .ok (.if_icmp .ge 28, 3) := by decide +kernel
theorem dX2_doorsOpenedBy_12 : decode cX2_doorsOpenedBy 12 = .ok (.aload_n 0, 1) := by decide +kernel
theorem dX2_doorsOpenedBy_13 : decode cX2_doorsOpenedBy 13 = .ok (.getfield 17, 3) := by decide +kernel
theorem dX2_doorsOpenedBy_16 : decode cX2_doorsOpenedBy 16 = .ok (.iload_n 3, 1) := by decide +kernel
theorem dX2_doorsOpenedBy_17 : decode cX2_doorsOpenedBy 17 = .ok (.aaload, 1) := by decide +kernel
theorem dX2_doorsOpenedBy_18 : decode cX2_doorsOpenedBy 18 = .ok (.iload_n 1, 1) := by decide +kernel
theorem dX2_doorsOpenedBy_19 : decode cX2_doorsOpenedBy 19 = .ok (.invokevirtual 185, 3) := by decide +kernel
theorem dX2_doorsOpenedBy_22 : decode cX2_doorsOpenedBy 22 = .ok (.ifCond .eq 9, 3) := by decide +kernel
theorem dX2_doorsOpenedBy_25 : decode cX2_doorsOpenedBy 25 = .ok (.iload_n 2, 1) := by decide +kernel
theorem dX2_doorsOpenedBy_26 : decode cX2_doorsOpenedBy 26 = .ok (.iconst 1, 1) := by decide +kernel
theorem dX2_doorsOpenedBy_27 : decode cX2_doorsOpenedBy 27 = .ok (.iload_n 3, 1) := by decide +kernel
theorem dX2_doorsOpenedBy_28 : decode cX2_doorsOpenedBy 28 = .ok (.ishl, 1) := by decide +kernel
theorem dX2_doorsOpenedBy_29 : decode cX2_doorsOpenedBy 29 = .ok (.ior, 1) := by decide +kernel
theorem dX2_doorsOpenedBy_30 : decode cX2_doorsOpenedBy 30 = .ok (.istore_n 2, 1) := by decide +kernel
theorem dX2_doorsOpenedBy_31 : decode cX2_doorsOpenedBy 31 = .ok (.iinc 3 1, 3) := by decide +kernel
theorem dX2_doorsOpenedBy_34 : decode cX2_doorsOpenedBy 34 = .ok (.goto (-30), 3) := by decide +kernel
theorem dX2_doorsOpenedBy_37 : decode cX2_doorsOpenedBy 37 = .ok (.iload_n 2, 1) := by decide +kernel
theorem dX2_doorsOpenedBy_38 : decode cX2_doorsOpenedBy 38 = .ok (.ireturn, 1) := by decide +kernel
theorem dX2_brassInLocks_0 : decode cX2_brassInLocks 0 = .ok (.iconst 0, 1) := by decide +kernel
theorem dX2_brassInLocks_1 : decode cX2_brassInLocks 1 = .ok (.istore_n 1, 1) := by decide +kernel
theorem dX2_brassInLocks_2 : decode cX2_brassInLocks 2 = .ok (.iconst 0, 1) := by decide +kernel
theorem dX2_brassInLocks_3 : decode cX2_brassInLocks 3 = .ok (.istore_n 2, 1) := by decide +kernel
theorem dX2_brassInLocks_4 : decode cX2_brassInLocks 4 = .ok (.iload_n 2, 1) := by decide +kernel
theorem dX2_brassInLocks_5 : decode cX2_brassInLocks 5 = .ok (.aload_n 0, 1) := by decide +kernel
theorem dX2_brassInLocks_6 : decode cX2_brassInLocks 6 = .ok (.getfield 36, 3) := by decide +kernel
theorem dX2_brassInLocks_9 : decode cX2_brassInLocks 9 = .ok (.if_icmp .ge 21, 3) := by decide +kernel
theorem dX2_brassInLocks_12 : decode cX2_brassInLocks 12 = .ok (.iload_n 1, 1) := by decide +kernel
theorem dX2_brassInLocks_13 : decode cX2_brassInLocks 13 = .ok (.aload_n 0, 1) := by decide +kernel
theorem dX2_brassInLocks_14 : decode cX2_brassInLocks 14 = .ok (.getfield 17, 3) := by decide +kernel
theorem dX2_brassInLocks_17 : decode cX2_brassInLocks 17 = .ok (.iload_n 2, 1) := by decide +kernel
theorem dX2_brassInLocks_18 : decode cX2_brassInLocks 18 = .ok (.aaload, 1) := by decide +kernel
theorem dX2_brassInLocks_19 : decode cX2_brassInLocks 19 = .ok (.invokevirtual 94, 3) := by decide +kernel
theorem dX2_brassInLocks_22 : decode cX2_brassInLocks 22 = .ok (.iadd, 1) := by decide +kernel
theorem dX2_brassInLocks_23 : decode cX2_brassInLocks 23 = .ok (.istore_n 1, 1) := by decide +kernel
theorem dX2_brassInLocks_24 : decode cX2_brassInLocks 24 = .ok (.iinc 2 1, 3) := by decide +kernel
theorem dX2_brassInLocks_27 : decode cX2_brassInLocks 27 = .ok (.goto (-23), 3) := by decide +kernel
theorem dX2_brassInLocks_30 : decode cX2_brassInLocks 30 = .ok (.iload_n 1, 1) := by decide +kernel
theorem dX2_brassInLocks_31 : decode cX2_brassInLocks 31 = .ok (.ireturn, 1) := by decide +kernel
theorem dX2_brassInKeys_0 : decode cX2_brassInKeys 0 = .ok (.iconst 0, 1) := by decide +kernel
theorem dX2_brassInKeys_1 : decode cX2_brassInKeys 1 = .ok (.istore_n 1, 1) := by decide +kernel
theorem dX2_brassInKeys_2 : decode cX2_brassInKeys 2 = .ok (.iconst 0, 1) := by decide +kernel
theorem dX2_brassInKeys_3 : decode cX2_brassInKeys 3 = .ok (.istore_n 2, 1) := by decide +kernel
theorem dX2_brassInKeys_4 : decode cX2_brassInKeys 4 = .ok (.iload_n 2, 1) := by decide +kernel
theorem dX2_brassInKeys_5 : decode cX2_brassInKeys 5 = .ok (.aload_n 0, 1) := by decide +kernel
theorem dX2_brassInKeys_6 : decode cX2_brassInKeys 6 = .ok (.getfield 44, 3) := by decide +kernel
theorem dX2_brassInKeys_9 : decode cX2_brassInKeys 9 = .ok (.if_icmp .ge 21, 3) := by decide +kernel
theorem dX2_brassInKeys_12 : decode cX2_brassInKeys 12 = .ok (.iload_n 1, 1) := by decide +kernel
theorem dX2_brassInKeys_13 : decode cX2_brassInKeys 13 = .ok (.aload_n 0, 1) := by decide +kernel
theorem dX2_brassInKeys_14 : decode cX2_brassInKeys 14 = .ok (.getfield 23, 3) := by decide +kernel
theorem dX2_brassInKeys_17 : decode cX2_brassInKeys 17 = .ok (.iload_n 2, 1) := by decide +kernel
theorem dX2_brassInKeys_18 : decode cX2_brassInKeys 18 = .ok (.aaload, 1) := by decide +kernel
theorem dX2_brassInKeys_19 : decode cX2_brassInKeys 19 = .ok (.getfield 121, 3) := by decide +kernel
theorem dX2_brassInKeys_22 : decode cX2_brassInKeys 22 = .ok (.iadd, 1) := by decide +kernel
theorem dX2_brassInKeys_23 : decode cX2_brassInKeys 23 = .ok (.istore_n 1, 1) := by decide +kernel
theorem dX2_brassInKeys_24 : decode cX2_brassInKeys 24 = .ok (.iinc 2 1, 3) := by decide +kernel
theorem dX2_brassInKeys_27 : decode cX2_brassInKeys 27 = .ok (.goto (-23), 3) := by decide +kernel
theorem dX2_brassInKeys_30 : decode cX2_brassInKeys 30 = .ok (.iload_n 1, 1) := by decide +kernel
theorem dX2_brassInKeys_31 : decode cX2_brassInKeys 31 = .ok (.ireturn, 1) := by decide +kernel
theorem dX2_aboutDoor_0 : decode cX2_aboutDoor 0 = .ok (.aload_n 0, 1) := by decide +kernel
theorem dX2_aboutDoor_1 : decode cX2_aboutDoor 1 = .ok (.iload_n 1, 1) := by decide +kernel
theorem dX2_aboutDoor_2 : decode cX2_aboutDoor 2 = .ok (.invokevirtual 91, 3) := by decide +kernel
theorem dX2_aboutDoor_5 : decode cX2_aboutDoor 5 = .ok (.ifCond .ne 5, 3) := by decide +kernel
theorem dX2_aboutDoor_8 : decode cX2_aboutDoor 8 = .ok (.iconst (-1), 1) := by decide +kernel
theorem dX2_aboutDoor_9 : decode cX2_aboutDoor 9 = .ok (.ireturn, 1) := by decide +kernel
theorem dX2_aboutDoor_10 : decode cX2_aboutDoor 10 = .ok (.aload_n 0, 1) := by decide +kernel
theorem dX2_aboutDoor_11 : decode cX2_aboutDoor 11 = .ok (.getfield 17, 3) := by decide +kernel
theorem dX2_aboutDoor_14 : decode cX2_aboutDoor 14 = .ok (.iload_n 1, 1) := by decide +kernel
theorem dX2_aboutDoor_15 : decode cX2_aboutDoor 15 = .ok (.aaload, 1) := by decide +kernel
theorem dX2_aboutDoor_16 : decode cX2_aboutDoor 16 = .ok (.astore_n 3, 1) := by decide +kernel
theorem dX2_aboutDoor_17 : decode cX2_aboutDoor 17 = .ok (.iload_n 2, 1) := by decide +kernel
theorem dX2_aboutDoor_18 : decode cX2_aboutDoor 18 = .ok (.tableswitch 91 0 7 #[46, 51, 56, 61, 66, 71, 76, 82], 46) := by decide +kernel
theorem dX2_aboutDoor_64 : decode cX2_aboutDoor 64 = .ok (.aload_n 3, 1) := by decide +kernel
theorem dX2_aboutDoor_65 : decode cX2_aboutDoor 65 = .ok (.getfield 188, 3) := by decide +kernel
theorem dX2_aboutDoor_68 : decode cX2_aboutDoor 68 = .ok (.ireturn, 1) := by decide +kernel
theorem dX2_aboutDoor_69 : decode cX2_aboutDoor 69 = .ok (.aload_n 3, 1) := by decide +kernel
theorem dX2_aboutDoor_70 : decode cX2_aboutDoor 70 = .ok (.getfield 191, 3) := by decide +kernel
theorem dX2_aboutDoor_73 : decode cX2_aboutDoor 73 = .ok (.ireturn, 1) := by decide +kernel
theorem dX2_aboutDoor_74 : decode cX2_aboutDoor 74 = .ok (.aload_n 3, 1) := by decide +kernel
theorem dX2_aboutDoor_75 : decode cX2_aboutDoor 75 = .ok (.getfield 101, 3) := by decide +kernel
theorem dX2_aboutDoor_78 : decode cX2_aboutDoor 78 = .ok (.ireturn, 1) := by decide +kernel
theorem dX2_aboutDoor_79 : decode cX2_aboutDoor 79 = .ok (.aload_n 3, 1) := by decide +kernel
theorem dX2_aboutDoor_80 : decode cX2_aboutDoor 80 = .ok (.getfield 104, 3) := by decide +kernel
theorem dX2_aboutDoor_83 : decode cX2_aboutDoor 83 = .ok (.ireturn, 1) := by decide +kernel
theorem dX2_aboutDoor_84 : decode cX2_aboutDoor 84 = .ok (.aload_n 3, 1) := by decide +kernel
theorem dX2_aboutDoor_85 : decode cX2_aboutDoor 85 = .ok (.invokevirtual 94, 3) := by decide +kernel
theorem dX2_aboutDoor_88 : decode cX2_aboutDoor 88 = .ok (.ireturn, 1) := by decide +kernel
theorem dX2_aboutDoor_89 : decode cX2_aboutDoor 89 = .ok (.aload_n 3, 1) := by decide +kernel
theorem dX2_aboutDoor_90 : decode cX2_aboutDoor 90 = .ok (.getfield 107, 3) := by decide +kernel
theorem dX2_aboutDoor_93 : decode cX2_aboutDoor 93 = .ok (.ireturn, 1) := by decide +kernel
theorem dX2_aboutDoor_94 : decode cX2_aboutDoor 94 = .ok (.aload_n 0, 1) := by decide +kernel
theorem dX2_aboutDoor_95 : decode cX2_aboutDoor 95 = .ok (.iload_n 1, 1) := by decide +kernel
theorem dX2_aboutDoor_96 : decode cX2_aboutDoor 96 = .ok (.invokevirtual 139, 3) := by decide +kernel
theorem dX2_aboutDoor_99 : decode cX2_aboutDoor 99 = .ok (.ireturn, 1) := by decide +kernel
theorem dX2_aboutDoor_100 : decode cX2_aboutDoor 100 = .ok (.aload_n 0, 1) := by decide +kernel
theorem dX2_aboutDoor_101 : decode cX2_aboutDoor 101 = .ok (.getfield 30, 3) := by decide +kernel
theorem dX2_aboutDoor_104 : decode cX2_aboutDoor 104 = .ok (.iload_n 1, 1) := by decide +kernel
theorem dX2_aboutDoor_105 : decode cX2_aboutDoor 105 = .ok (.invokevirtual 145, 3) := by decide +kernel
theorem dX2_aboutDoor_108 : decode cX2_aboutDoor 108 = .ok (.ireturn, 1) := by decide +kernel
theorem dX2_aboutDoor_109 : decode cX2_aboutDoor 109 = .ok (.bipush (-2), 2) := by decide +kernel
theorem dX2_aboutDoor_111 : decode cX2_aboutDoor 111 = .ok (.ireturn, 1) := by decide +kernel
theorem dX2_aboutKey_0 : decode cX2_aboutKey 0 = .ok (.aload_n 0, 1) := by decide +kernel
theorem dX2_aboutKey_1 : decode cX2_aboutKey 1 = .ok (.iload_n 1, 1) := by decide +kernel
theorem dX2_aboutKey_2 : decode cX2_aboutKey 2 = .ok (.invokevirtual 126, 3) := by decide +kernel
theorem dX2_aboutKey_5 : decode cX2_aboutKey 5 = .ok (.ifCond .ne 5, 3) := by decide +kernel
theorem dX2_aboutKey_8 : decode cX2_aboutKey 8 = .ok (.iconst (-1), 1) := by decide +kernel
theorem dX2_aboutKey_9 : decode cX2_aboutKey 9 = .ok (.ireturn, 1) := by decide +kernel
theorem dX2_aboutKey_10 : decode cX2_aboutKey 10 = .ok (.aload_n 0, 1) := by decide +kernel
theorem dX2_aboutKey_11 : decode cX2_aboutKey 11 = .ok (.getfield 23, 3) := by decide +kernel
theorem dX2_aboutKey_14 : decode cX2_aboutKey 14 = .ok (.iload_n 1, 1) := by decide +kernel
theorem dX2_aboutKey_15 : decode cX2_aboutKey 15 = .ok (.aaload, 1) := by decide +kernel
theorem dX2_aboutKey_16 : decode cX2_aboutKey 16 = .ok (.astore_n 3, 1) := by decide +kernel
theorem dX2_aboutKey_17 : decode cX2_aboutKey 17 = .ok (.iload_n 2, 1) := by decide +kernel
theorem dX2_aboutKey_18 : decode cX2_aboutKey 18 = .ok (.tableswitch 67 0 3 #[30, 35, 40, 45], 30) := by decide +kernel
theorem dX2_aboutKey_48 : decode cX2_aboutKey 48 = .ok (.aload_n 3, 1) := by decide +kernel
theorem dX2_aboutKey_49 : decode cX2_aboutKey 49 = .ok (.getfield 118, 3) := by decide +kernel
theorem dX2_aboutKey_52 : decode cX2_aboutKey 52 = .ok (.ireturn, 1) := by decide +kernel
theorem dX2_aboutKey_53 : decode cX2_aboutKey 53 = .ok (.aload_n 3, 1) := by decide +kernel
theorem dX2_aboutKey_54 : decode cX2_aboutKey 54 = .ok (.getfield 121, 3) := by decide +kernel
theorem dX2_aboutKey_57 : decode cX2_aboutKey 57 = .ok (.ireturn, 1) := by decide +kernel
theorem dX2_aboutKey_58 : decode cX2_aboutKey 58 = .ok (.aload_n 3, 1) := by decide +kernel
theorem dX2_aboutKey_59 : decode cX2_aboutKey 59 = .ok (.getfield 123, 3) := by decide +kernel
theorem dX2_aboutKey_62 : decode cX2_aboutKey 62 = .ok (.ireturn, 1) := by decide +kernel
theorem dX2_aboutKey_63 : decode cX2_aboutKey 63 = .ok (.aload_n 3, 1) := by decide +kernel
theorem dX2_aboutKey_64 : decode cX2_aboutKey 64 = .ok (.getfield 123, 3) := by decide +kernel
theorem dX2_aboutKey_67 : decode cX2_aboutKey 67 = .ok (.bipush 9, 2) := by decide +kernel
theorem dX2_aboutKey_69 : decode cX2_aboutKey 69 = .ok (.if_icmp .ne 7, 3) := by decide +kernel
theorem dX2_aboutKey_72 : decode cX2_aboutKey 72 = .ok (.iconst 0, 1) := by decide +kernel
theorem dX2_aboutKey_73 : decode cX2_aboutKey 73 = .ok (.goto 11, 3) := by decide +kernel
theorem dX2_aboutKey_76 : decode cX2_aboutKey 76 = .ok (.aload_n 0, 1) := by decide +kernel
theorem dX2_aboutKey_77 : decode cX2_aboutKey 77 = .ok (.aload_n 3, 1) := by decide +kernel
theorem dX2_aboutKey_78 : decode cX2_aboutKey 78 = .ok (.getfield 118, 3) := by decide +kernel
theorem dX2_aboutKey_81 : decode cX2_aboutKey 81 = .ok (.invokevirtual 194, 3) := by decide +kernel
theorem dX2_aboutKey_84 : decode cX2_aboutKey 84 = .ok (.ireturn, 1) := by decide +kernel
theorem dX2_aboutKey_85 : decode cX2_aboutKey 85 = .ok (.bipush (-2), 2) := by decide +kernel
theorem dX2_aboutKey_87 : decode cX2_aboutKey 87 = .ok (.ireturn, 1) := by decide +kernel
theorem dX2_aboutAll_0 : decode cX2_aboutAll 0 = .ok (.iload_n 1, 1) := by decide +kernel
theorem dX2_aboutAll_1 : decode cX2_aboutAll 1 = .ok (.tableswitch 160 0 15 #[79, 84, 91, 96, 101, 106, 111, 116, 121, 126, 134, 160, 160, 139, 146, 153], 79) := by decide +kernel
theorem dX2_aboutAll_80 : decode cX2_aboutAll 80 = .ok (.aload_n 0, 1) := by decide +kernel
theorem dX2_aboutAll_81 : decode cX2_aboutAll 81 = .ok (.getfield 53, 3) := by decide +kernel
theorem dX2_aboutAll_84 : decode cX2_aboutAll 84 = .ok (.ireturn, 1) := by decide +kernel
theorem dX2_aboutAll_85 : decode cX2_aboutAll 85 = .ok (.aload_n 0, 1) := by decide +kernel
theorem dX2_aboutAll_86 : decode cX2_aboutAll 86 = .ok (.bipush 8, 2) := by decide +kernel
theorem dX2_aboutAll_88 : decode cX2_aboutAll 88 = .ok (.invokevirtual 133, 3) := by decide +kernel
theorem dX2_aboutAll_91 : decode cX2_aboutAll 91 = .ok (.ireturn, 1) := by decide +kernel
theorem dX2_aboutAll_92 : decode cX2_aboutAll 92 = .ok (.aload_n 0, 1) := by decide +kernel
theorem dX2_aboutAll_93 : decode cX2_aboutAll 93 = .ok (.getfield 36, 3) := by decide +kernel
theorem dX2_aboutAll_96 : decode cX2_aboutAll 96 = .ok (.ireturn, 1) := by decide +kernel
theorem dX2_aboutAll_97 : decode cX2_aboutAll 97 = .ok (.aload_n 0, 1) := by decide +kernel
theorem dX2_aboutAll_98 : decode cX2_aboutAll 98 = .ok (.getfield 44, 3) := by decide +kernel
theorem dX2_aboutAll_101 : decode cX2_aboutAll 101 = .ok (.ireturn, 1) := by decide +kernel
theorem dX2_aboutAll_102 : decode cX2_aboutAll 102 = .ok (.aload_n 0, 1) := by decide +kernel
theorem dX2_aboutAll_103 : decode cX2_aboutAll 103 = .ok (.getfield 62, 3) := by decide +kernel
theorem dX2_aboutAll_106 : decode cX2_aboutAll 106 = .ok (.ireturn, 1) := by decide +kernel
theorem dX2_aboutAll_107 : decode cX2_aboutAll 107 = .ok (.aload_n 0, 1) := by decide +kernel
theorem dX2_aboutAll_108 : decode cX2_aboutAll 108 = .ok (.invokevirtual 197, 3) := by decide +kernel
theorem dX2_aboutAll_111 : decode cX2_aboutAll 111 = .ok (.ireturn, 1) := by decide +kernel
theorem dX2_aboutAll_112 : decode cX2_aboutAll 112 = .ok (.aload_n 0, 1) := by decide +kernel
theorem dX2_aboutAll_113 : decode cX2_aboutAll 113 = .ok (.invokevirtual 200, 3) := by decide +kernel
theorem dX2_aboutAll_116 : decode cX2_aboutAll 116 = .ok (.ireturn, 1) := by decide +kernel
theorem dX2_aboutAll_117 : decode cX2_aboutAll 117 = .ok (.aload_n 0, 1) := by decide +kernel
theorem dX2_aboutAll_118 : decode cX2_aboutAll 118 = .ok (.getfield 59, 3) := by decide +kernel
theorem dX2_aboutAll_121 : decode cX2_aboutAll 121 = .ok (.ireturn, 1) := by decide +kernel
theorem dX2_aboutAll_122 : decode cX2_aboutAll 122 = .ok (.aload_n 0, 1) := by decide +kernel
theorem dX2_aboutAll_123 : decode cX2_aboutAll 123 = .ok (.getfield 65, 3) := by decide +kernel
theorem dX2_aboutAll_126 : decode cX2_aboutAll 126 = .ok (.ireturn, 1) := by decide +kernel
theorem dX2_aboutAll_127 : decode cX2_aboutAll 127 = .ok (.aload_n 0, 1) := by decide +kernel
theorem dX2_aboutAll_128 : decode cX2_aboutAll 128 = .ok (.getfield 30, 3) := by decide +kernel
theorem dX2_aboutAll_131 : decode cX2_aboutAll 131 = .ok (.getfield 142, 3) := by decide +kernel
theorem dX2_aboutAll_134 : decode cX2_aboutAll 134 = .ok (.ireturn, 1) := by decide +kernel
theorem dX2_aboutAll_135 : decode cX2_aboutAll 135 = .ok (.aload_n 0, 1) := by decide +kernel
theorem dX2_aboutAll_136 : decode cX2_aboutAll 136 = .ok (.getfield 56, 3) := by decide +kernel
theorem dX2_aboutAll_139 : decode cX2_aboutAll 139 = .ok (.ireturn, 1) := by decide +kernel
theorem dX2_aboutAll_140 : decode cX2_aboutAll 140 = .ok (.aload_n 0, 1) := by decide +kernel
theorem dX2_aboutAll_141 : decode cX2_aboutAll 141 = .ok (.getfield 9, 3) := by decide +kernel
theorem dX2_aboutAll_144 : decode cX2_aboutAll 144 = .ok (.iconst 0, 1) := by decide +kernel
theorem dX2_aboutAll_145 : decode cX2_aboutAll 145 = .ok (.iaload, 1) := by decide +kernel
theorem dX2_aboutAll_146 : decode cX2_aboutAll 146 = .ok (.ireturn, 1) := by decide +kernel
theorem dX2_aboutAll_147 : decode cX2_aboutAll 147 = .ok (.aload_n 0, 1) := by decide +kernel
theorem dX2_aboutAll_148 : decode cX2_aboutAll 148 = .ok (.getfield 9, 3) := by decide +kernel
theorem dX2_aboutAll_151 : decode cX2_aboutAll 151 = .ok (.iconst 1, 1) := by decide +kernel
theorem dX2_aboutAll_152 : decode cX2_aboutAll 152 = .ok (.iaload, 1) := by decide +kernel
theorem dX2_aboutAll_153 : decode cX2_aboutAll 153 = .ok (.ireturn, 1) := by decide +kernel
theorem dX2_aboutAll_154 : decode cX2_aboutAll 154 = .ok (.aload_n 0, 1) := by decide +kernel
theorem dX2_aboutAll_155 : decode cX2_aboutAll 155 = .ok (.getfield 9, 3) := by decide +kernel
theorem dX2_aboutAll_158 : decode cX2_aboutAll 158 = .ok (.iconst 2, 1) := by decide +kernel
theorem dX2_aboutAll_159 : decode cX2_aboutAll 159 = .ok (.iaload, 1) := by decide +kernel
theorem dX2_aboutAll_160 : decode cX2_aboutAll 160 = .ok (.ireturn, 1) := by decide +kernel
theorem dX2_aboutAll_161 : decode cX2_aboutAll 161 = .ok (.bipush (-2), 2) := by decide +kernel
theorem dX2_aboutAll_163 : decode cX2_aboutAll 163 = .ok (.ireturn, 1) := by decide +kernel
theorem dX3_init_0 : decode cX3_init 0 = .ok (.aload_n 0, 1) := by decide +kernel
theorem dX3_init_1 : decode cX3_init 1 = .ok (.invokespecial 1, 3) := by decide +kernel
theorem dX3_init_4 : decode cX3_init 4 = .ok (.return_, 1) := by decide +kernel
theorem dX3_copyFrom_0 : decode cX3_copyFrom 0 = .ok (.aload_n 0, 1) := by decide +kernel
theorem dX3_copyFrom_1 : decode cX3_copyFrom 1 = .ok (.aload_n 1, 1) := by decide +kernel
theorem dX3_copyFrom_2 : decode cX3_copyFrom 2 = .ok (.getfield 7, 3) := by decide +kernel
theorem dX3_copyFrom_5 : decode cX3_copyFrom 5 = .ok (.putfield 7, 3) := by decide +kernel
theorem dX3_copyFrom_8 : decode cX3_copyFrom 8 = .ok (.aload_n 0, 1) := by decide +kernel
theorem dX3_copyFrom_9 : decode cX3_copyFrom 9 = .ok (.aload_n 1, 1) := by decide +kernel
theorem dX3_copyFrom_10 : decode cX3_copyFrom 10 = .ok (.getfield 13, 3) := by decide +kernel
theorem dX3_copyFrom_13 : decode cX3_copyFrom 13 = .ok (.putfield 13, 3) := by decide +kernel
theorem dX3_copyFrom_16 : decode cX3_copyFrom 16 = .ok (.aload_n 0, 1) := by decide +kernel
theorem dX3_copyFrom_17 : decode cX3_copyFrom 17 = .ok (.aload_n 1, 1) := by decide +kernel
theorem dX3_copyFrom_18 : decode cX3_copyFrom 18 = .ok (.getfield 16, 3) := by decide +kernel
theorem dX3_copyFrom_21 : decode cX3_copyFrom 21 = .ok (.putfield 16, 3) := by decide +kernel
theorem dX3_copyFrom_24 : decode cX3_copyFrom 24 = .ok (.return_, 1) := by decide +kernel
theorem dX4_init_0 : decode cX4_init 0 = .ok (.aload_n 0, 1) := by decide +kernel
theorem dX4_init_1 : decode cX4_init 1 = .ok (.invokespecial 3, 3) := by decide +kernel
theorem dX4_init_4 : decode cX4_init 4 = .ok (.aload_n 0, 1) := by decide +kernel
theorem dX4_init_5 : decode cX4_init 5 = .ok (.iconst 4, 1) := by decide +kernel
theorem dX4_init_6 : decode cX4_init 6 = .ok (.newarray .int, 2) := by decide +kernel
theorem dX4_init_8 : decode cX4_init 8 = .ok (.putfield 9, 3) := by decide +kernel
theorem dX4_init_11 : decode cX4_init 11 = .ok (.aload_n 0, 1) := by decide +kernel
theorem dX4_init_12 : decode cX4_init 12 = .ok (.bipush 10, 2) := by decide +kernel
theorem dX4_init_14 : decode cX4_init 14 = .ok (.newarray .int, 2) := by decide +kernel
theorem dX4_init_16 : decode cX4_init 16 = .ok (.putfield 15, 3) := by decide +kernel
theorem dX4_init_19 : decode cX4_init 19 = .ok (.aload_n 0, 1) := by decide +kernel
theorem dX4_init_20 : decode cX4_init 20 = .ok (.bipush 10, 2) := by decide +kernel
theorem dX4_init_22 : decode cX4_init 22 = .ok (.newarray .int, 2) := by decide +kernel
theorem dX4_init_24 : decode cX4_init 24 = .ok (.putfield 18, 3) := by decide +kernel
theorem dX4_init_27 : decode cX4_init 27 = .ok (.return_, 1) := by decide +kernel
theorem dX4_work_0 : decode cX4_work 0 = .ok (.aload_n 0, 1) := by decide +kernel
theorem dX4_work_1 : decode cX4_work 1 = .ok (.aload_n 1, 1) := by decide +kernel
theorem dX4_work_2 : decode cX4_work 2 = .ok (.getfield 21, 3) := by decide +kernel
theorem dX4_work_5 : decode cX4_work 5 = .ok (.iconst 0, 1) := by decide +kernel
theorem dX4_work_6 : decode cX4_work 6 = .ok (.iaload, 1) := by decide +kernel
theorem dX4_work_7 : decode cX4_work 7 = .ok (.putfield 26, 3) := by decide +kernel
theorem dX4_work_10 : decode cX4_work 10 = .ok (.iconst 0, 1) := by decide +kernel
theorem dX4_work_11 : decode cX4_work 11 = .ok (.istore_n 3, 1) := by decide +kernel
theorem dX4_work_12 : decode cX4_work 12 = .ok (.iload_n 3, 1) := by decide +kernel
theorem dX4_work_13 : decode cX4_work 13 = .ok (.iconst 4, 1) := by decide +kernel
theorem dX4_work_14 : decode cX4_work 14 = .ok (.if_icmp .ge 18, 3) := by decide +kernel
theorem dX4_work_17 : decode cX4_work 17 = .ok (.aload_n 0, 1) := by decide +kernel
theorem dX4_work_18 : decode cX4_work 18 = .ok (.getfield 9, 3) := by decide +kernel
theorem dX4_work_21 : decode cX4_work 21 = .ok (.iload_n 3, 1) := by decide +kernel
theorem dX4_work_22 : decode cX4_work 22 = .ok (.sipush 1023, 3) := by decide +kernel
theorem dX4_work_25 : decode cX4_work 25 = .ok (.iastore, 1) := by decide +kernel
theorem dX4_work_26 : decode cX4_work 26 = .ok (.iinc 3 1, 3) := by decide +kernel
theorem dX4_work_29 : decode cX4_work 29 = .ok (.goto (-17), 3) := by decide +kernel
theorem dX4_work_32 : decode cX4_work 32 = .ok (.iconst 0, 1) := by decide +kernel
theorem dX4_work_33 : decode cX4_work 33 = .ok (.istore_n 3, 1) := by decide +kernel
theorem dX4_work_34 : decode cX4_work 34 = .ok (.iload_n 3, 1) := by decide +kernel
theorem dX4_work_35 : decode cX4_work 35 = .ok (.aload_n 1, 1) := by decide +kernel
theorem dX4_work_36 : decode cX4_work 36 = .ok (.getfield 30, 3) := by decide +kernel
theorem dX4_work_39 : decode cX4_work 39 = .ok (.if_icmp .ge 27, 3) := by decide +kernel
theorem dX4_work_42 : decode cX4_work 42 = .ok (.iload_n 2, 1) := by decide +kernel
theorem dX4_work_43 : decode cX4_work 43 = .ok (.iload_n 3, 1) := by decide +kernel
theorem dX4_work_44 : decode cX4_work 44 = .ok (.ishr, 1) := by decide +kernel
theorem dX4_work_45 : decode cX4_work 45 = .ok (.iconst 1, 1) := by decide +kernel
theorem dX4_work_46 : decode cX4_work 46 = .ok (.iand, 1) := by decide +kernel
theorem dX4_work_47 : decode cX4_work 47 = .ok (.ifCond .eq 13, 3) := by decide +kernel
theorem dX4_work_50 : decode cX4_work 50 = .ok (.aload_n 0, 1) := by decide +kernel
theorem dX4_work_51 : decode cX4_work 51 = .ok (.aload_n 1, 1) := by decide +kernel
theorem dX4_work_52 : decode cX4_work 52 = .ok (.getfield 33, 3) := by decide +kernel
theorem dX4_work_55 : decode cX4_work 55 = .ok (.iload_n 3, 1) := by decide +kernel
theorem dX4_work_56 : decode cX4_work 56 = .ok (.aaload, 1) := by decide +kernel
theorem dX4_work_57 : decode cX4_work 57 = .ok (.invokevirtual 37, 3) := by decide +kernel
theorem dX4_work_60 : decode cX4_work 60 = .ok (.iinc 3 1, 3) := by decide +kernel
theorem dX4_work_63 : decode cX4_work 63 = .ok (.goto (-29), 3) := by decide +kernel
theorem dX4_work_66 : decode cX4_work 66 = .ok (.return_, 1) := by decide +kernel
theorem dX4_keepFitting_0 : decode cX4_keepFitting 0 = .ok (.aload_n 1, 1) := by decide +kernel
theorem dX4_keepFitting_1 : decode cX4_keepFitting 1 = .ok (.getfield 41, 3) := by decide +kernel
theorem dX4_keepFitting_4 : decode cX4_keepFitting 4 = .ok (.istore_n 2, 1) := by decide +kernel
theorem dX4_keepFitting_5 : decode cX4_keepFitting 5 = .ok (.aload_n 1, 1) := by decide +kernel
theorem dX4_keepFitting_6 : decode cX4_keepFitting 6 = .ok (.getfield 46, 3) := by decide +kernel
theorem dX4_keepFitting_9 : decode cX4_keepFitting 9 = .ok (.istore_n 3, 1) := by decide +kernel
theorem dX4_keepFitting_10 : decode cX4_keepFitting 10 = .ok (.iconst 3, 1) := by decide +kernel
theorem dX4_keepFitting_11 : decode cX4_keepFitting 11 = .ok (.istore 4, 2) := by decide +kernel
theorem dX4_keepFitting_13 : decode cX4_keepFitting 13 = .ok (.iload 4, 2) := by decide +kernel
theorem dX4_keepFitting_15 : decode cX4_keepFitting 15 = .ok (.ifCond .lt 42, 3) := by decide +kernel
theorem dX4_keepFitting_18 : decode cX4_keepFitting 18 = .ok (.aload_n 0, 1) := by decide +kernel
theorem dX4_keepFitting_19 : decode cX4_keepFitting 19 = .ok (.getfield 9, 3) := by decide +kernel
theorem dX4_keepFitting_22 : decode cX4_keepFitting 22 = .ok (.iload 4, 2) := by decide +kernel
theorem dX4_keepFitting_24 : decode cX4_keepFitting 24 = .ok (.dup2, 1) := by decide +kernel
theorem dX4_keepFitting_25 : decode cX4_keepFitting 25 = .ok (.iaload, 1) := by decide +kernel
theorem dX4_keepFitting_26 : decode cX4_keepFitting 26 = .ok (.iconst 1, 1) := by decide +kernel
theorem dX4_keepFitting_27 : decode cX4_keepFitting 27 = .ok (.iload_n 2, 1) := by decide +kernel
theorem dX4_keepFitting_28 : decode cX4_keepFitting 28 = .ok (.bipush 10, 2) := by decide +kernel
theorem dX4_keepFitting_30 : decode cX4_keepFitting 30 = .ok (.irem, 1) := by decide +kernel
theorem dX4_keepFitting_31 : decode cX4_keepFitting 31 = .ok (.ishl, 1) := by decide +kernel
theorem dX4_keepFitting_32 : decode cX4_keepFitting 32 = .ok (.iconst 1, 1) := by decide +kernel
theorem dX4_keepFitting_33 : decode cX4_keepFitting 33 = .ok (.iload_n 3, 1) := by decide +kernel
theorem dX4_keepFitting_34 : decode cX4_keepFitting 34 = .ok (.bipush 10, 2) := by decide +kernel
theorem dX4_keepFitting_36 : decode cX4_keepFitting 36 = .ok (.irem, 1) := by decide +kernel
theorem dX4_keepFitting_37 : decode cX4_keepFitting 37 = .ok (.ishl, 1) := by decide +kernel
theorem dX4_keepFitting_38 : decode cX4_keepFitting 38 = .ok (.ior, 1) := by decide +kernel
theorem dX4_keepFitting_39 : decode cX4_keepFitting 39 = .ok (.iand, 1) := by decide +kernel
theorem dX4_keepFitting_40 : decode cX4_keepFitting 40 = .ok (.iastore, 1) := by decide +kernel
theorem dX4_keepFitting_41 : decode cX4_keepFitting 41 = .ok (.iload_n 2, 1) := by decide +kernel
theorem dX4_keepFitting_42 : decode cX4_keepFitting 42 = .ok (.bipush 10, 2) := by decide +kernel
theorem dX4_keepFitting_44 : decode cX4_keepFitting 44 = .ok (.idiv, 1) := by decide +kernel
theorem dX4_keepFitting_45 : decode cX4_keepFitting 45 = .ok (.istore_n 2, 1) := by decide +kernel
theorem dX4_keepFitting_46 : decode cX4_keepFitting 46 = .ok (.iload_n 3, 1) := by decide +kernel
theorem dX4_keepFitting_47 : decode cX4_keepFitting 47 = .ok (.bipush 10, 2) := by decide +kernel
theorem dX4_keepFitting_49 : decode cX4_keepFitting 49 = .ok (.idiv, 1) := by decide +kernel
theorem dX4_keepFitting_50 : decode cX4_keepFitting 50 = .ok (.istore_n 3, 1) := by decide +kernel
theorem dX4_keepFitting_51 : decode cX4_keepFitting 51 = .ok (.iinc 4 (-1), 3) := by decide +kernel
theorem dX4_keepFitting_54 : decode cX4_keepFitting 54 = .ok (.goto (-41), 3) := by decide +kernel
theorem dX4_keepFitting_57 : decode cX4_keepFitting 57 = .ok (.return_, 1) := by decide +kernel
theorem dX4_fits_0 : decode cX4_fits 0 = .ok (.aload_n 0, 1) := by decide +kernel
theorem dX4_fits_1 : decode cX4_fits 1 = .ok (.getfield 9, 3) := by decide +kernel
theorem dX4_fits_4 : decode cX4_fits 4 = .ok (.iload_n 1, 1) := by decide +kernel
theorem dX4_fits_5 : decode cX4_fits 5 = .ok (.iaload, 1) := by decide +kernel
theorem dX4_fits_6 : decode cX4_fits 6 = .ok (.iload_n 2, 1) := by decide +kernel
theorem dX4_fits_7 : decode cX4_fits 7 = .ok (.ishr, 1) := by decide +kernel
theorem dX4_fits_8 : decode cX4_fits 8 = .ok (.iconst 1, 1) := by decide +kernel
theorem dX4_fits_9 : decode cX4_fits 9 = .ok (.iand, 1) := by decide +kernel
theorem dX4_fits_10 : decode cX4_fits 10 = .ok (.ifCond .eq 7, 3) := by decide +kernel
theorem dX4_fits_13 : decode cX4_fits 13 = .ok (.iconst 1, 1) := by decide +kernel
theorem dX4_fits_14 : decode cX4_fits 14 = .ok (.goto 4, 3) := by decide +kernel
theorem dX4_fits_17 : decode cX4_fits 17 = .ok (.iconst 0, 1) := by decide +kernel
theorem dX4_fits_18 : decode cX4_fits 18 = .ok (.ireturn, 1) := by decide +kernel
theorem dX4_howMany_0 : decode cX4_howMany 0 = .ok (.aload_n 0, 1) := by decide +kernel
theorem dX4_howMany_1 : decode cX4_howMany 1 = .ok (.aload_n 1, 1) := by decide +kernel
theorem dX4_howMany_2 : decode cX4_howMany 2 = .ok (.iload_n 2, 1) := by decide +kernel
theorem dX4_howMany_3 : decode cX4_howMany 3 = .ok (.invokevirtual 49, 3) := by decide +kernel
theorem dX4_howMany_6 : decode cX4_howMany 6 = .ok (.iconst 0, 1) := by decide +kernel
theorem dX4_howMany_7 : decode cX4_howMany 7 = .ok (.istore_n 3, 1) := by decide +kernel
theorem dX4_howMany_8 : decode cX4_howMany 8 = .ok (.iload_n 3, 1) := by decide +kernel
theorem dX4_howMany_9 : decode cX4_howMany 9 = .ok (.bipush 10, 2) := by decide +kernel
theorem dX4_howMany_11 : decode cX4_howMany 11 = .ok (.if_icmp .ge 29, 3) := by decide +kernel
theorem dX4_howMany_14 : decode cX4_howMany 14 = .ok (.aload_n 0, 1) := by decide +kernel
theorem dX4_howMany_15 : decode cX4_howMany 15 = .ok (.getfield 15, 3) := by decide +kernel
theorem dX4_howMany_18 : decode cX4_howMany 18 = .ok (.iload_n 3, 1) := by decide +kernel
theorem dX4_howMany_19 : decode cX4_howMany 19 = .ok (.aload_n 0, 1) := by decide +kernel
theorem dX4_howMany_20 : decode cX4_howMany 20 = .ok (.iconst 0, 1) := by decide +kernel
theorem dX4_howMany_21 : decode cX4_howMany 21 = .ok (.iload_n 3, 1) := by decide +kernel
theorem dX4_howMany_22 : decode cX4_howMany 22 = .ok (.invokevirtual 53, 3) := by decide +kernel
theorem dX4_howMany_25 : decode cX4_howMany 25 = .ok (.ifCond .eq 7, 3) := by decide +kernel
theorem dX4_howMany_28 : decode cX4_howMany 28 = .ok (.iconst 1, 1) := by decide +kernel
theorem dX4_howMany_29 : decode cX4_howMany 29 = .ok (.goto 4, 3) := by decide +kernel
theorem dX4_howMany_32 : decode cX4_howMany 32 = .ok (.iconst 0, 1) := by decide +kernel
theorem dX4_howMany_33 : decode cX4_howMany 33 = .ok (.iastore, 1) := by decide +kernel
theorem dX4_howMany_34 : decode cX4_howMany 34 = .ok (.iinc 3 1, 3) := by decide +kernel
theorem dX4_howMany_37 : decode cX4_howMany 37 = .ok (.goto (-29), 3) := by decide +kernel
theorem dX4_howMany_40 : decode cX4_howMany 40 = .ok (.iconst 1, 1) := by decide +kernel
theorem dX4_howMany_41 : decode cX4_howMany 41 = .ok (.istore_n 3, 1) := by decide +kernel
theorem dX4_howMany_42 : decode cX4_howMany 42 = .ok (.iload_n 3, 1) := by decide +kernel
theorem dX4_howMany_43 : decode cX4_howMany 43 = .ok (.iconst 4, 1) := by decide +kernel
theorem dX4_howMany_44 : decode cX4_howMany 44 = .ok (.if_icmp .ge 14, 3) := by decide +kernel
theorem dX4_howMany_47 : decode cX4_howMany 47 = .ok (.aload_n 0, 1) := by decide +kernel
theorem dX4_howMany_48 : decode cX4_howMany 48 = .ok (.iload_n 3, 1) := by decide +kernel
theorem dX4_howMany_49 : decode cX4_howMany 49 = .ok (.invokevirtual 57, 3) := by decide +kernel
theorem dX4_howMany_52 : decode cX4_howMany 52 = .ok (.iinc 3 1, 3) := by decide +kernel
theorem dX4_howMany_55 : decode cX4_howMany 55 = .ok (.goto (-13), 3) := by decide +kernel
theorem dX4_howMany_58 : decode cX4_howMany 58 = .ok (.iconst 0, 1) := by decide +kernel
theorem dX4_howMany_59 : decode cX4_howMany 59 = .ok (.istore_n 3, 1) := by decide +kernel
theorem dX4_howMany_60 : decode cX4_howMany 60 = .ok (.iconst 0, 1) := by decide +kernel
theorem dX4_howMany_61 : decode cX4_howMany 61 = .ok (.istore 4, 2) := by decide +kernel
theorem dX4_howMany_63 : decode cX4_howMany 63 = .ok (.iload 4, 2) := by decide +kernel
theorem dX4_howMany_65 : decode cX4_howMany 65 = .ok (.bipush 10, 2) := by decide +kernel
theorem dX4_howMany_67 : decode cX4_howMany 67 = .ok (.if_icmp .ge 19, 3) := by decide +kernel
theorem dX4_howMany_70 : decode cX4_howMany 70 = .ok (.iload_n 3, 1) := by decide +kernel
theorem dX4_howMany_71 : decode cX4_howMany 71 = .ok (.aload_n 0, 1) := by decide +kernel
theorem dX4_howMany_72 : decode cX4_howMany 72 = .ok (.getfield 15, 3) := by decide +kernel
theorem dX4_howMany_75 : decode cX4_howMany 75 = .ok (.iload 4, 2) := by decide +kernel
theorem dX4_howMany_77 : decode cX4_howMany 77 = .ok (.iaload, 1) := by decide +kernel
theorem dX4_howMany_78 : decode cX4_howMany 78 = .ok (.iadd, 1) := by decide +kernel
theorem dX4_howMany_79 : decode cX4_howMany 79 = .ok (.istore_n 3, 1) := by decide +kernel
theorem dX4_howMany_80 : decode cX4_howMany 80 = .ok (.iinc 4 1, 3) := by decide +kernel
theorem dX4_howMany_83 : decode cX4_howMany 83 = .ok (.goto (-20), 3) := by decide +kernel
theorem dX4_howMany_86 : decode cX4_howMany 86 = .ok (.iload_n 3, 1) := by decide +kernel
theorem dX4_howMany_87 : decode cX4_howMany 87 = .ok (.ireturn, 1) := by decide +kernel
theorem dX4_countOn_0 : decode cX4_countOn 0 = .ok (.iconst 0, 1) := by decide +kernel
theorem dX4_countOn_1 : decode cX4_countOn 1 = .ok (.istore_n 2, 1) := by decide +kernel
theorem dX4_countOn_2 : decode cX4_countOn 2 = .ok (.iload_n 2, 1) := by decide +kernel
theorem dX4_countOn_3 : decode cX4_countOn 3 = .ok (.bipush 10, 2) := by decide +kernel
theorem dX4_countOn_5 : decode cX4_countOn 5 = .ok (.if_icmp .ge 33, 3) := by decide +kernel
theorem dX4_countOn_8 : decode cX4_countOn 8 = .ok (.aload_n 0, 1) := by decide +kernel
theorem dX4_countOn_9 : decode cX4_countOn 9 = .ok (.getfield 18, 3) := by decide +kernel
theorem dX4_countOn_12 : decode cX4_countOn 12 = .ok (.iload_n 2, 1) := by decide +kernel
theorem dX4_countOn_13 : decode cX4_countOn 13 = .ok (.aload_n 0, 1) := by decide +kernel
theorem dX4_countOn_14 : decode cX4_countOn 14 = .ok (.iload_n 1, 1) := by decide +kernel
theorem dX4_countOn_15 : decode cX4_countOn 15 = .ok (.iload_n 2, 1) := by decide +kernel
theorem dX4_countOn_16 : decode cX4_countOn 16 = .ok (.invokevirtual 53, 3) := by decide +kernel
theorem dX4_countOn_19 : decode cX4_countOn 19 = .ok (.ifCond .eq 11, 3) := by decide +kernel
theorem dX4_countOn_22 : decode cX4_countOn 22 = .ok (.aload_n 0, 1) := by decide +kernel
theorem dX4_countOn_23 : decode cX4_countOn 23 = .ok (.iload_n 2, 1) := by decide +kernel
theorem dX4_countOn_24 : decode cX4_countOn 24 = .ok (.invokevirtual 61, 3) := by decide +kernel
theorem dX4_countOn_27 : decode cX4_countOn 27 = .ok (.goto 4, 3) := by decide +kernel
theorem dX4_countOn_30 : decode cX4_countOn 30 = .ok (.iconst 0, 1) := by decide +kernel
theorem dX4_countOn_31 : decode cX4_countOn 31 = .ok (.iastore, 1) := by decide +kernel
theorem dX4_countOn_32 : decode cX4_countOn 32 = .ok (.iinc 2 1, 3) := by decide +kernel
theorem dX4_countOn_35 : decode cX4_countOn 35 = .ok (.goto (-33), 3) := by decide +kernel
theorem dX4_countOn_38 : decode cX4_countOn 38 = .ok (.iconst 0, 1) := by decide +kernel
theorem dX4_countOn_39 : decode cX4_countOn 39 = .ok (.istore_n 2, 1) := by decide +kernel
theorem dX4_countOn_40 : decode cX4_countOn 40 = .ok (.iload_n 2, 1) := by decide +kernel
theorem dX4_countOn_41 : decode cX4_countOn 41 = .ok (.bipush 10, 2) := by decide +kernel
theorem dX4_countOn_43 : decode cX4_countOn 43 = .ok (.if_icmp .ge 21, 3) := by decide +kernel
theorem dX4_countOn_46 : decode cX4_countOn 46 = .ok (.aload_n 0, 1) := by decide +kernel
theorem dX4_countOn_47 : decode cX4_countOn 47 = .ok (.getfield 15, 3) := by decide +kernel
theorem dX4_countOn_50 : decode cX4_countOn 50 = .ok (.iload_n 2, 1) := by decide +kernel
theorem dX4_countOn_51 : decode cX4_countOn 51 = .ok (.aload_n 0, 1) := by decide +kernel
theorem dX4_countOn_52 : decode cX4_countOn 52 = .ok (.getfield 18, 3) := by decide +kernel
theorem dX4_countOn_55 : decode cX4_countOn 55 = .ok (.iload_n 2, 1) := by decide +kernel
theorem dX4_countOn_56 : decode cX4_countOn 56 = .ok (.iaload, 1) := by decide +kernel
theorem dX4_countOn_57 : decode cX4_countOn 57 = .ok (.iastore, 1) := by decide +kernel
theorem dX4_countOn_58 : decode cX4_countOn 58 = .ok (.iinc 2 1, 3) := by decide +kernel
theorem dX4_countOn_61 : decode cX4_countOn 61 = .ok (.goto (-21), 3) := by decide +kernel
theorem dX4_countOn_64 : decode cX4_countOn 64 = .ok (.return_, 1) := by decide +kernel
theorem dX4_waysBeside_0 : decode cX4_waysBeside 0 = .ok (.bipush 9, 2) := by decide +kernel
theorem dX4_waysBeside_2 : decode cX4_waysBeside 2 = .ok (.iload_n 1, 1) := by decide +kernel
theorem dX4_waysBeside_3 : decode cX4_waysBeside 3 = .ok (.aload_n 0, 1) := by decide +kernel
theorem dX4_waysBeside_4 : decode cX4_waysBeside 4 = .ok (.getfield 26, 3) := by decide +kernel
theorem dX4_waysBeside_7 : decode cX4_waysBeside 7 = .ok (.iadd, 1) := by decide +kernel
theorem dX4_waysBeside_8 : decode cX4_waysBeside 8 = .ok (.invokestatic 65, 3) := by decide +kernel
theorem dX4_waysBeside_11 : decode cX4_waysBeside 11 = .ok (.istore_n 2, 1) := by decide +kernel
theorem dX4_waysBeside_12 : decode cX4_waysBeside 12 = .ok (.iconst 0, 1) := by decide +kernel
theorem dX4_waysBeside_13 : decode cX4_waysBeside 13 = .ok (.istore_n 3, 1) := by decide +kernel
theorem dX4_waysBeside_14 : decode cX4_waysBeside 14 = .ok (.iconst 0, 1) := by decide +kernel
theorem dX4_waysBeside_15 : decode cX4_waysBeside 15 = .ok (.iload_n 1, 1) := by decide +kernel
theorem dX4_waysBeside_16 : decode cX4_waysBeside 16 = .ok (.aload_n 0, 1) := by decide +kernel
theorem dX4_waysBeside_17 : decode cX4_waysBeside 17 = .ok (.getfield 26, 3) := by decide +kernel
theorem dX4_waysBeside_20 : decode cX4_waysBeside 20 = .ok (.isub, 1) := by decide +kernel
theorem dX4_waysBeside_21 : decode cX4_waysBeside 21 = .ok (.invokestatic 71, 3) := by decide +kernel
theorem dX4_waysBeside_24 : decode cX4_waysBeside 24 = .ok (.istore 4, 2) := by decide +kernel
theorem dX4_waysBeside_26 : decode cX4_waysBeside 26 = .ok (.iload 4, 2) := by decide +kernel
theorem dX4_waysBeside_28 : decode cX4_waysBeside 28 = .ok (.iload_n 2, 1) := by decide +kernel
theorem dX4_waysBeside_29 : decode cX4_waysBeside 29 = .ok (.if_icmp .gt 19, 3) := by decide +kernel
theorem dX4_waysBeside_32 : decode cX4_waysBeside 32 = .ok (.iload_n 3, 1) := by decide +kernel
theorem dX4_waysBeside_33 : decode cX4_waysBeside 33 = .ok (.aload_n 0, 1) := by decide +kernel
theorem dX4_waysBeside_34 : decode cX4_waysBeside 34 = .ok (.getfield 15, 3) := by decide +kernel
theorem dX4_waysBeside_37 : decode cX4_waysBeside 37 = .ok (.iload 4, 2) := by decide +kernel
theorem dX4_waysBeside_39 : decode cX4_waysBeside 39 = .ok (.iaload, 1) := by decide +kernel
theorem dX4_waysBeside_40 : decode cX4_waysBeside 40 = .ok (.iadd, 1) := by decide +kernel
theorem dX4_waysBeside_41 : decode cX4_waysBeside 41 = .ok (.istore_n 3, 1) := by decide +kernel
theorem dX4_waysBeside_42 : decode cX4_waysBeside 42 = .ok (.iinc 4 1, 3) := by decide +kernel
theorem dX4_waysBeside_45 : decode cX4_waysBeside 45 = .ok (.goto (-19), 3) := by decide +kernel
theorem dX4_waysBeside_48 : decode cX4_waysBeside 48 = .ok (.iload_n 3, 1) := by decide +kernel
theorem dX4_waysBeside_49 : decode cX4_waysBeside 49 = .ok (.ireturn, 1) := by decide +kernel
theorem dX4_leastJustFor_0 : decode cX4_leastJustFor 0 = .ok (.aload_n 0, 1) := by decide +kernel
theorem dX4_leastJustFor_1 : decode cX4_leastJustFor 1 = .ok (.aload_n 1, 1) := by decide +kernel
theorem dX4_leastJustFor_2 : decode cX4_leastJustFor 2 = .ok (.iload_n 2, 1) := by decide +kernel
theorem dX4_leastJustFor_3 : decode cX4_leastJustFor 3 = .ok (.invokevirtual 49, 3) := by decide +kernel
theorem dX4_leastJustFor_6 : decode cX4_leastJustFor 6 = .ok (.iconst 0, 1) := by decide +kernel
theorem dX4_leastJustFor_7 : decode cX4_leastJustFor 7 = .ok (.istore_n 3, 1) := by decide +kernel
theorem dX4_leastJustFor_8 : decode cX4_leastJustFor 8 = .ok (.iload_n 3, 1) := by decide +kernel
theorem dX4_leastJustFor_9 : decode cX4_leastJustFor 9 = .ok (.sipush 9999, 3) := by decide +kernel
theorem dX4_leastJustFor_12 : decode cX4_leastJustFor 12 = .ok (.if_icmp .gt 38, 3) := by decide +kernel
theorem dX4_leastJustFor_15 : decode cX4_leastJustFor 15 = .ok (.aload_n 0, 1) := by decide +kernel
theorem dX4_leastJustFor_16 : decode cX4_leastJustFor 16 = .ok (.iload_n 3, 1) := by decide +kernel
theorem dX4_leastJustFor_17 : decode cX4_leastJustFor 17 = .ok (.invokevirtual 74, 3) := by decide +kernel
theorem dX4_leastJustFor_20 : decode cX4_leastJustFor 20 = .ok (.istore 4, 2) := by decide +kernel
theorem dX4_leastJustFor_22 : decode cX4_leastJustFor 22 = .ok (.iload 4, 2) := by decide +kernel
theorem dX4_leastJustFor_24 : decode cX4_leastJustFor 24 = .ok (.ifCond .ne 14, 3) := by decide +kernel
theorem dX4_leastJustFor_27 : decode cX4_leastJustFor 27 = .ok (.aload_n 1, 1) := by decide +kernel
theorem dX4_leastJustFor_28 : decode cX4_leastJustFor 28 = .ok (.iload_n 3, 1) := by decide +kernel
theorem dX4_leastJustFor_29 : decode cX4_leastJustFor 29 = .ok (.invokevirtual 77, 3) := by decide +kernel
theorem dX4_leastJustFor_32 : decode cX4_leastJustFor 32 = .ok (.iload_n 2, 1) := by decide +kernel
theorem dX4_leastJustFor_33 : decode cX4_leastJustFor 33 = .ok (.if_icmp .ne 5, 3) := by decide +kernel
theorem dX4_leastJustFor_36 : decode cX4_leastJustFor 36 = .ok (.iload_n 3, 1) := by decide +kernel
theorem dX4_leastJustFor_37 : decode cX4_leastJustFor 37 = .ok (.ireturn, 1) := by decide +kernel
theorem dX4_leastJustFor_38 : decode cX4_leastJustFor 38 = .ok (.iload_n 3, 1) := by decide +kernel
theorem dX4_leastJustFor_39 : decode cX4_leastJustFor 39 = .ok (.iconst 1, 1) := by decide +kernel
theorem dX4_leastJustFor_40 : decode cX4_leastJustFor 40 = .ok (.iload 4, 2) := by decide +kernel
theorem dX4_leastJustFor_42 : decode cX4_leastJustFor 42 = .ok (.invokestatic 71, 3) := by decide +kernel
theorem dX4_leastJustFor_45 : decode cX4_leastJustFor 45 = .ok (.iadd, 1) := by decide +kernel
theorem dX4_leastJustFor_46 : decode cX4_leastJustFor 46 = .ok (.istore_n 3, 1) := by decide +kernel
theorem dX4_leastJustFor_47 : decode cX4_leastJustFor 47 = .ok (.goto (-39), 3) := by decide +kernel
theorem dX4_leastJustFor_50 : decode cX4_leastJustFor 50 = .ok (.bipush (-6), 2) := by decide +kernel
theorem dX4_leastJustFor_52 : decode cX4_leastJustFor 52 = .ok (.ireturn, 1) := by decide +kernel
theorem dX4_misfitsFrom_0 : decode cX4_misfitsFrom 0 = .ok (.iload_n 1, 1) := by decide +kernel
theorem dX4_misfitsFrom_1 : decode cX4_misfitsFrom 1 = .ok (.sipush 1000, 3) := by decide +kernel
theorem dX4_misfitsFrom_4 : decode cX4_misfitsFrom 4 = .ok (.idiv, 1) := by decide +kernel
theorem dX4_misfitsFrom_5 : decode cX4_misfitsFrom 5 = .ok (.istore_n 2, 1) := by decide +kernel
theorem dX4_misfitsFrom_6 : decode cX4_misfitsFrom 6 = .ok (.iconst 0, 1) := by decide +kernel
theorem dX4_misfitsFrom_7 : decode cX4_misfitsFrom 7 = .ok (.istore_n 3, 1) := by decide +kernel
theorem dX4_misfitsFrom_8 : decode cX4_misfitsFrom 8 = .ok (.sipush 1000, 3) := by decide +kernel
theorem dX4_misfitsFrom_11 : decode cX4_misfitsFrom 11 = .ok (.istore 4, 2) := by decide +kernel
theorem dX4_misfitsFrom_13 : decode cX4_misfitsFrom 13 = .ok (.iload 4, 2) := by decide +kernel
theorem dX4_misfitsFrom_15 : decode cX4_misfitsFrom 15 = .ok (.ifCond .le 65, 3) := by decide +kernel
theorem dX4_misfitsFrom_18 : decode cX4_misfitsFrom 18 = .ok (.iload_n 3, 1) := by decide +kernel
theorem dX4_misfitsFrom_19 : decode cX4_misfitsFrom 19 = .ok (.iconst 4, 1) := by decide +kernel
theorem dX4_misfitsFrom_20 : decode cX4_misfitsFrom 20 = .ok (.if_icmp .ge 60, 3) := by decide +kernel
theorem dX4_misfitsFrom_23 : decode cX4_misfitsFrom 23 = .ok (.iload_n 1, 1) := by decide +kernel
theorem dX4_misfitsFrom_24 : decode cX4_misfitsFrom 24 = .ok (.iload 4, 2) := by decide +kernel
theorem dX4_misfitsFrom_26 : decode cX4_misfitsFrom 26 = .ok (.idiv, 1) := by decide +kernel
theorem dX4_misfitsFrom_27 : decode cX4_misfitsFrom 27 = .ok (.bipush 10, 2) := by decide +kernel
theorem dX4_misfitsFrom_29 : decode cX4_misfitsFrom 29 = .ok (.irem, 1) := by decide +kernel
theorem dX4_misfitsFrom_30 : decode cX4_misfitsFrom 30 = .ok (.istore 5, 2) := by decide +kernel
theorem dX4_misfitsFrom_32 : decode cX4_misfitsFrom 32 = .ok (.iload 5, 2) := by decide +kernel
theorem dX4_misfitsFrom_34 : decode cX4_misfitsFrom 34 = .ok (.iload_n 2, 1) := by decide +kernel
theorem dX4_misfitsFrom_35 : decode cX4_misfitsFrom 35 = .ok (.isub, 1) := by decide +kernel
theorem dX4_misfitsFrom_36 : decode cX4_misfitsFrom 36 = .ok (.invokestatic 80, 3) := by decide +kernel
theorem dX4_misfitsFrom_39 : decode cX4_misfitsFrom 39 = .ok (.aload_n 0, 1) := by decide +kernel
theorem dX4_misfitsFrom_40 : decode cX4_misfitsFrom 40 = .ok (.getfield 26, 3) := by decide +kernel
theorem dX4_misfitsFrom_43 : decode cX4_misfitsFrom 43 = .ok (.if_icmp .gt 13, 3) := by decide +kernel
theorem dX4_misfitsFrom_46 : decode cX4_misfitsFrom 46 = .ok (.aload_n 0, 1) := by decide +kernel
theorem dX4_misfitsFrom_47 : decode cX4_misfitsFrom 47 = .ok (.iload_n 3, 1) := by decide +kernel
theorem dX4_misfitsFrom_48 : decode cX4_misfitsFrom 48 = .ok (.iload 5, 2) := by decide +kernel
theorem dX4_misfitsFrom_50 : decode cX4_misfitsFrom 50 = .ok (.invokevirtual 53, 3) := by decide +kernel
theorem dX4_misfitsFrom_53 : decode cX4_misfitsFrom 53 = .ok (.ifCond .ne 11, 3) := by decide +kernel
theorem dX4_misfitsFrom_56 : decode cX4_misfitsFrom 56 = .ok (.iload 4, 2) := by decide +kernel
theorem dX4_misfitsFrom_58 : decode cX4_misfitsFrom 58 = .ok (.iload_n 1, 1) := by decide +kernel
theorem dX4_misfitsFrom_59 : decode cX4_misfitsFrom 59 = .ok (.iload 4, 2) := by decide +kernel
theorem dX4_misfitsFrom_61 : decode cX4_misfitsFrom 61 = .ok (.irem, 1) := by decide +kernel
theorem dX4_misfitsFrom_62 : decode cX4_misfitsFrom 62 = .ok (.isub, 1) := by decide +kernel
theorem dX4_misfitsFrom_63 : decode cX4_misfitsFrom 63 = .ok (.ireturn, 1) := by decide +kernel
theorem dX4_misfitsFrom_64 : decode cX4_misfitsFrom 64 = .ok (.iload 5, 2) := by decide +kernel
theorem dX4_misfitsFrom_66 : decode cX4_misfitsFrom 66 = .ok (.istore_n 2, 1) := by decide +kernel
theorem dX4_misfitsFrom_67 : decode cX4_misfitsFrom 67 = .ok (.iinc 3 1, 3) := by decide +kernel
theorem dX4_misfitsFrom_70 : decode cX4_misfitsFrom 70 = .ok (.iload 4, 2) := by decide +kernel
theorem dX4_misfitsFrom_72 : decode cX4_misfitsFrom 72 = .ok (.bipush 10, 2) := by decide +kernel
theorem dX4_misfitsFrom_74 : decode cX4_misfitsFrom 74 = .ok (.idiv, 1) := by decide +kernel
theorem dX4_misfitsFrom_75 : decode cX4_misfitsFrom 75 = .ok (.istore 4, 2) := by decide +kernel
theorem dX4_misfitsFrom_77 : decode cX4_misfitsFrom 77 = .ok (.goto (-64), 3) := by decide +kernel
theorem dX4_misfitsFrom_80 : decode cX4_misfitsFrom 80 = .ok (.iconst 0, 1) := by decide +kernel
theorem dX4_misfitsFrom_81 : decode cX4_misfitsFrom 81 = .ok (.ireturn, 1) := by decide +kernel
theorem dX5_init_0 : decode cX5_init 0 = .ok (.aload_n 0, 1) := by decide +kernel
theorem dX5_init_1 : decode cX5_init 1 = .ok (.invokespecial 1, 3) := by decide +kernel
theorem dX5_init_4 : decode cX5_init 4 = .ok (.return_, 1) := by decide +kernel
theorem dX6_init_0 : decode cX6_init 0 = .ok (.aload_n 0, 1) := by decide +kernel
theorem dX6_init_1 : decode cX6_init 1 = .ok (.invokespecial 3, 3) := by decide +kernel
theorem dX6_init_4 : decode cX6_init 4 = .ok (.aload_n 0, 1) := by decide +kernel
theorem dX6_init_5 : decode cX6_init 5 = .ok (.bipush 80, 2) := by decide +kernel
theorem dX6_init_7 : decode cX6_init 7 = .ok (.newarray .char, 2) := by decide +kernel
theorem dX6_init_9 : decode cX6_init 9 = .ok (.putfield 9, 3) := by decide +kernel
theorem dX6_init_12 : decode cX6_init 12 = .ok (.aload_n 0, 1) := by decide +kernel
theorem dX6_init_13 : decode cX6_init 13 = .ok (.bipush 27, 2) := by decide +kernel
theorem dX6_init_15 : decode cX6_init 15 = .ok (.anewarray 15, 3) := by decide +kernel
theorem dX6_init_18 : decode cX6_init 18 = .ok (.putfield 17, 3) := by decide +kernel
theorem dX6_init_21 : decode cX6_init 21 = .ok (.iconst 0, 1) := by decide +kernel
theorem dX6_init_22 : decode cX6_init 22 = .ok (.istore_n 1, 1) := by decide +kernel
theorem dX6_init_23 : decode cX6_init 23 = .ok (.iload_n 1, 1) := by decide +kernel
theorem dX6_init_24 : decode cX6_init 24 = .ok (.bipush 27, 2) := by decide +kernel
theorem dX6_init_26 : decode cX6_init 26 = .ok (.if_icmp .ge 22, 3) := by decide +kernel
theorem dX6_init_29 : decode cX6_init 29 = .ok (.aload_n 0, 1) := by decide +kernel
theorem dX6_init_30 : decode cX6_init 30 = .ok (.getfield 17, 3) := by decide +kernel
theorem dX6_init_33 : decode cX6_init 33 = .ok (.iload_n 1, 1) := by decide +kernel
theorem dX6_init_34 : decode cX6_init 34 = .ok (.new 15, 3) := by decide +kernel
theorem dX6_init_37 : decode cX6_init 37 = .ok (.dup, 1) := by decide +kernel
theorem dX6_init_38 : decode cX6_init 38 = .ok (.invokespecial 21, 3) := by decide +kernel
theorem dX6_init_41 : decode cX6_init 41 = .ok (.aastore, 1) := by decide +kernel
theorem dX6_init_42 : decode cX6_init 42 = .ok (.iinc 1 1, 3) := by decide +kernel
theorem dX6_init_45 : decode cX6_init 45 = .ok (.goto (-22), 3) := by decide +kernel
theorem dX6_init_48 : decode cX6_init 48 = .ok (.return_, 1) := by decide +kernel
theorem dX6_append_0 : decode cX6_append 0 = .ok (.lload_n 1, 1) := by decide +kernel
theorem dX6_append_1 : decode cX6_append 1 = .ok (.invokestatic 22, 3) := by decide +kernel
theorem dX6_append_4 : decode cX6_append 4 = .ok (.istore_n 3, 1) := by decide +kernel
theorem dX6_append_5 : decode cX6_append 5 = .ok (.iload_n 3, 1) := by decide +kernel
theorem dX6_append_6 : decode cX6_append 6 = .ok (.ifCond .ne 6, 3) := by decide +kernel
theorem dX6_append_9 : decode cX6_append 9 = .ok (.bipush (-2), 2) := by decide +kernel
theorem dX6_append_11 : decode cX6_append 11 = .ok (.ireturn, 1) := by decide +kernel
theorem dX6_append_12 : decode cX6_append 12 = .ok (.aload_n 0, 1) := by decide +kernel
theorem dX6_append_13 : decode cX6_append 13 = .ok (.getfield 26, 3) := by decide +kernel
theorem dX6_append_16 : decode cX6_append 16 = .ok (.iload_n 3, 1) := by decide +kernel
theorem dX6_append_17 : decode cX6_append 17 = .ok (.iadd, 1) := by decide +kernel
theorem dX6_append_18 : decode cX6_append 18 = .ok (.bipush 80, 2) := by decide +kernel
theorem dX6_append_20 : decode cX6_append 20 = .ok (.if_icmp .le 6, 3) := by decide +kernel
theorem dX6_append_23 : decode cX6_append 23 = .ok (.bipush (-4), 2) := by decide +kernel
theorem dX6_append_25 : decode cX6_append 25 = .ok (.ireturn, 1) := by decide +kernel
theorem dX6_append_26 : decode cX6_append 26 = .ok (.lload_n 1, 1) := by decide +kernel
theorem dX6_append_27 : decode cX6_append 27 = .ok (.lstore 4, 2) := by decide +kernel
theorem dX6_append_29 : decode cX6_append 29 = .ok (.aload_n 0, 1) := by decide +kernel
theorem dX6_append_30 : decode cX6_append 30 = .ok (.getfield 26, 3) := by decide +kernel
theorem dX6_append_33 : decode cX6_append 33 = .ok (.iload_n 3, 1) := by decide +kernel
theorem dX6_append_34 : decode cX6_append 34 = .ok (.iadd, 1) := by decide +kernel
theorem dX6_append_35 : decode cX6_append 35 = .ok (.iconst 1, 1) := by decide +kernel
theorem dX6_append_36 : decode cX6_append 36 = .ok (.isub, 1) := by decide +kernel
theorem dX6_append_37 : decode cX6_append 37 = .ok (.istore 6, 2) := by decide +kernel
theorem dX6_append_39 : decode cX6_append 39 = .ok (.iload 6, 2) := by decide +kernel
theorem dX6_append_41 : decode cX6_append 41 = .ok (.aload_n 0, 1) := by decide +kernel
theorem dX6_append_42 : decode cX6_append 42 = .ok (.getfield 26, 3) := by decide +kernel
theorem dX6_append_45 : decode cX6_append 45 = .ok (.if_icmp .lt 31, 3) := by decide +kernel
theorem dX6_append_48 : decode cX6_append 48 = .ok (.aload_n 0, 1) := by decide +kernel
theorem dX6_append_49 : decode cX6_append 49 = .ok (.getfield 9, 3) := by decide +kernel
theorem dX6_append_52 : decode cX6_append 52 = .ok (.iload 6, 2) := by decide +kernel
theorem dX6_append_54 : decode cX6_append 54 = .ok (.lload 4, 2) := by decide +kernel
theorem dX6_append_56 : decode cX6_append 56 = .ok (.ldc2_w 30, 3) := by decide +kernel
theorem dX6_append_59 : decode cX6_append 59 = .ok (.land, 1) := by decide +kernel
theorem dX6_append_60 : decode cX6_append 60 = .ok (.l2i, 1) := by decide +kernel
theorem dX6_append_61 : decode cX6_append 61 = .ok (.i2c, 1) := by decide +kernel
theorem dX6_append_62 : decode cX6_append 62 = .ok (.castore, 1) := by decide +kernel
theorem dX6_append_63 : decode cX6_append 63 = .ok (.lload 4, 2) := by decide +kernel
theorem dX6_append_65 : decode cX6_append 65 = .ok (.bipush 8, 2) := by decide +kernel
theorem dX6_append_67 : decode cX6_append 67 = .ok (.lushr, 1) := by decide +kernel
theorem dX6_append_68 : decode cX6_append 68 = .ok (.lstore 4, 2) := by decide +kernel
theorem dX6_append_70 : decode cX6_append 70 = .ok (.iinc 6 (-1), 3) := by decide +kernel
theorem dX6_append_73 : decode cX6_append 73 = .ok (.goto (-34), 3) := by decide +kernel
theorem dX6_append_76 : decode cX6_append 76 = .ok (.aload_n 0, 1) := by decide +kernel
theorem dX6_append_77 : decode cX6_append 77 = .ok (.dup, 1) := by decide +kernel
theorem dX6_append_78 : decode cX6_append 78 = .ok (.getfield 26, 3) := by decide +kernel
theorem dX6_append_81 : decode cX6_append 81 = .ok (.iload_n 3, 1) := by decide +kernel
theorem dX6_append_82 : decode cX6_append 82 = .ok (.iadd, 1) := by decide +kernel
theorem dX6_append_83 : decode cX6_append 83 = .ok (.putfield 26, 3) := by decide +kernel
theorem dX6_append_86 : decode cX6_append 86 = .ok (.aload_n 0, 1) := by decide +kernel
theorem dX6_append_87 : decode cX6_append 87 = .ok (.getfield 26, 3) := by decide +kernel
theorem dX6_append_90 : decode cX6_append 90 = .ok (.ireturn, 1) := by decide +kernel
theorem dX6_howManyIn_0 : decode cX6_howManyIn 0 = .ok (.iconst 0, 1) := by decide +kernel
theorem dX6_howManyIn_1 : decode cX6_howManyIn 1 = .ok (.istore_n 2, 1) := by decide +kernel
theorem dX6_howManyIn_2 : decode cX6_howManyIn 2 = .ok (.lload_n 0, 1) := by decide +kernel
theorem dX6_howManyIn_3 : decode cX6_howManyIn 3 = .ok (.lstore_n 3, 1) := by decide +kernel
theorem dX6_howManyIn_4 : decode cX6_howManyIn 4 = .ok (.iload_n 2, 1) := by decide +kernel
theorem dX6_howManyIn_5 : decode cX6_howManyIn 5 = .ok (.bipush 8, 2) := by decide +kernel
theorem dX6_howManyIn_7 : decode cX6_howManyIn 7 = .ok (.if_icmp .ge 51, 3) := by decide +kernel
theorem dX6_howManyIn_10 : decode cX6_howManyIn 10 = .ok (.lload_n 3, 1) := by decide +kernel
theorem dX6_howManyIn_11 : decode cX6_howManyIn 11 = .ok (.ldc2_w 30, 3) := by decide +kernel
theorem dX6_howManyIn_14 : decode cX6_howManyIn 14 = .ok (.land, 1) := by decide +kernel
theorem dX6_howManyIn_15 : decode cX6_howManyIn 15 = .ok (.lconst 0, 1) := by decide +kernel
theorem dX6_howManyIn_16 : decode cX6_howManyIn 16 = .ok (.lcmp, 1) := by decide +kernel
theorem dX6_howManyIn_17 : decode cX6_howManyIn 17 = .ok (.ifCond .eq 41, 3) := by decide +kernel
theorem dX6_howManyIn_20 : decode cX6_howManyIn 20 = .ok (.lload_n 3, 1) := by decide +kernel
theorem dX6_howManyIn_21 : decode cX6_howManyIn 21 = .ok (.ldc2_w 30, 3) := by decide +kernel
theorem dX6_howManyIn_24 : decode cX6_howManyIn 24 = .ok (.land, 1) := by decide +kernel
theorem dX6_howManyIn_25 : decode cX6_howManyIn 25 = .ok (.lstore 5, 2) := by decide +kernel
theorem dX6_howManyIn_27 : decode cX6_howManyIn 27 = .ok (.lload 5, 2) := by decide +kernel
theorem dX6_howManyIn_29 : decode cX6_howManyIn 29 = .ok (.ldc2_w 32, 3) := by decide +kernel
theorem dX6_howManyIn_32 : decode cX6_howManyIn 32 = .ok (.lcmp, 1) := by decide +kernel
theorem dX6_howManyIn_33 : decode cX6_howManyIn 33 = .ok (.ifCond .lt 12, 3) := by decide +kernel
theorem dX6_howManyIn_36 : decode cX6_howManyIn 36 = .ok (.lload 5, 2) := by decide +kernel
theorem dX6_howManyIn_38 : decode cX6_howManyIn 38 = .ok (.ldc2_w 34, 3) := by decide +kernel
theorem dX6_howManyIn_41 : decode cX6_howManyIn 41 = .ok (.lcmp, 1) := by decide +kernel
theorem dX6_howManyIn_42 : decode cX6_howManyIn 42 = .ok (.ifCond .le 5, 3) := by decide +kernel
theorem dX6_howManyIn_45 : decode cX6_howManyIn 45 = .ok (.iconst 0, 1) := by decide +kernel
theorem dX6_howManyIn_46 : decode cX6_howManyIn 46 = .ok (.ireturn, 1) := by decide +kernel
theorem dX6_howManyIn_47 : decode cX6_howManyIn 47 = .ok (.lload_n 3, 1) := by decide +kernel
theorem dX6_howManyIn_48 : decode cX6_howManyIn 48 = .ok (.bipush 8, 2) := by decide +kernel
theorem dX6_howManyIn_50 : decode cX6_howManyIn 50 = .ok (.lushr, 1) := by decide +kernel
theorem dX6_howManyIn_51 : decode cX6_howManyIn 51 = .ok (.lstore_n 3, 1) := by decide +kernel
theorem dX6_howManyIn_52 : decode cX6_howManyIn 52 = .ok (.iinc 2 1, 3) := by decide +kernel
theorem dX6_howManyIn_55 : decode cX6_howManyIn 55 = .ok (.goto (-51), 3) := by decide +kernel
theorem dX6_howManyIn_58 : decode cX6_howManyIn 58 = .ok (.lload_n 3, 1) := by decide +kernel
theorem dX6_howManyIn_59 : decode cX6_howManyIn 59 = .ok (.lconst 0, 1) := by decide +kernel
theorem dX6_howManyIn_60 : decode cX6_howManyIn 60 = .ok (.lcmp, 1) := by decide +kernel
theorem dX6_howManyIn_61 : decode cX6_howManyIn 61 = .ok (.ifCond .ne 7, 3) := by decide +kernel
theorem dX6_howManyIn_64 : decode cX6_howManyIn 64 = .ok (.iload_n 2, 1) := by decide +kernel
theorem dX6_howManyIn_65 : decode cX6_howManyIn 65 = .ok (.goto 4, 3) := by decide +kernel
theorem dX6_howManyIn_68 : decode cX6_howManyIn 68 = .ok (.iconst 0, 1) := by decide +kernel
theorem dX6_howManyIn_69 : decode cX6_howManyIn 69 = .ok (.ireturn, 1) := by decide +kernel
theorem dX6_clear_0 : decode cX6_clear 0 = .ok (.aload_n 0, 1) := by decide +kernel
theorem dX6_clear_1 : decode cX6_clear 1 = .ok (.getfield 26, 3) := by decide +kernel
theorem dX6_clear_4 : decode cX6_clear 4 = .ok (.istore_n 1, 1) := by decide +kernel
theorem dX6_clear_5 : decode cX6_clear 5 = .ok (.aload_n 0, 1) := by decide +kernel
theorem dX6_clear_6 : decode cX6_clear 6 = .ok (.iconst 0, 1) := by decide +kernel
theorem dX6_clear_7 : decode cX6_clear 7 = .ok (.putfield 26, 3) := by decide +kernel
theorem dX6_clear_10 : decode cX6_clear 10 = .ok (.iload_n 1, 1) := by decide +kernel
theorem dX6_clear_11 : decode cX6_clear 11 = .ok (.ireturn, 1) := by decide +kernel
theorem dX6_read_0 : decode cX6_read 0 = .ok (.aload_n 0, 1) := by decide +kernel
theorem dX6_read_1 : decode cX6_read 1 = .ok (.iconst 0, 1) := by decide +kernel
theorem dX6_read_2 : decode cX6_read 2 = .ok (.putfield 36, 3) := by decide +kernel
theorem dX6_read_5 : decode cX6_read 5 = .ok (.aload_n 0, 1) := by decide +kernel
theorem dX6_read_6 : decode cX6_read 6 = .ok (.iconst 0, 1) := by decide +kernel
theorem dX6_read_7 : decode cX6_read 7 = .ok (.putfield 39, 3) := by decide +kernel
theorem dX6_read_10 : decode cX6_read 10 = .ok (.iconst 0, 1) := by decide +kernel
theorem dX6_read_11 : decode cX6_read 11 = .ok (.istore_n 1, 1) := by decide +kernel
theorem dX6_read_12 : decode cX6_read 12 = .ok (.iload_n 1, 1) := by decide +kernel
theorem dX6_read_13 : decode cX6_read 13 = .ok (.bipush 27, 2) := by decide +kernel
theorem dX6_read_15 : decode cX6_read 15 = .ok (.if_icmp .ge 65, 3) := by decide +kernel
theorem dX6_read_18 : decode cX6_read 18 = .ok (.aload_n 0, 1) := by decide +kernel
theorem dX6_read_19 : decode cX6_read 19 = .ok (.aload_n 0, 1) := by decide +kernel
theorem dX6_read_20 : decode cX6_read 20 = .ok (.getfield 17, 3) := by decide +kernel
theorem dX6_read_23 : decode cX6_read 23 = .ok (.iload_n 1, 1) := by decide +kernel
theorem dX6_read_24 : decode cX6_read 24 = .ok (.aaload, 1) := by decide +kernel
theorem dX6_read_25 : decode cX6_read 25 = .ok (.invokevirtual 42, 3) := by decide +kernel
theorem dX6_read_28 : decode cX6_read 28 = .ok (.ifCond .ne 8, 3) := by decide +kernel
theorem dX6_read_31 : decode cX6_read 31 = .ok (.aload_n 0, 1) := by decide +kernel
theorem dX6_read_32 : decode cX6_read 32 = .ok (.getfield 36, 3) := by decide +kernel
theorem dX6_read_35 : decode cX6_read 35 = .ok (.ireturn, 1) := by decide +kernel
theorem dX6_read_36 : decode cX6_read 36 = .ok (.aload_n 0, 1) := by decide +kernel
theorem dX6_read_37 : decode cX6_read 37 = .ok (.dup, 1) := by decide +kernel
theorem dX6_read_38 : decode cX6_read 38 = .ok (.getfield 39, 3) := by decide +kernel
theorem dX6_read_41 : decode cX6_read 41 = .ok (.iconst 1, 1) := by decide +kernel
theorem dX6_read_42 : decode cX6_read 42 = .ok (.iadd, 1) := by decide +kernel
theorem dX6_read_43 : decode cX6_read 43 = .ok (.putfield 39, 3) := by decide +kernel
theorem dX6_read_46 : decode cX6_read 46 = .ok (.aload_n 0, 1) := by decide +kernel
theorem dX6_read_47 : decode cX6_read 47 = .ok (.getfield 36, 3) := by decide +kernel
theorem dX6_read_50 : decode cX6_read 50 = .ok (.aload_n 0, 1) := by decide +kernel
theorem dX6_read_51 : decode cX6_read 51 = .ok (.getfield 26, 3) := by decide +kernel
theorem dX6_read_54 : decode cX6_read 54 = .ok (.if_icmp .lt 6, 3) := by decide +kernel
theorem dX6_read_57 : decode cX6_read 57 = .ok (.bipush (-6), 2) := by decide +kernel
theorem dX6_read_59 : decode cX6_read 59 = .ok (.ireturn, 1) := by decide +kernel
theorem dX6_read_60 : decode cX6_read 60 = .ok (.aload_n 0, 1) := by decide +kernel
theorem dX6_read_61 : decode cX6_read 61 = .ok (.bipush 59, 2) := by decide +kernel
theorem dX6_read_63 : decode cX6_read 63 = .ok (.invokevirtual 46, 3) := by decide +kernel
theorem dX6_read_66 : decode cX6_read 66 = .ok (.ifCond .ne 8, 3) := by decide +kernel
theorem dX6_read_69 : decode cX6_read 69 = .ok (.aload_n 0, 1) := by decide +kernel
theorem dX6_read_70 : decode cX6_read 70 = .ok (.getfield 36, 3) := by decide +kernel
theorem dX6_read_73 : decode cX6_read 73 = .ok (.ireturn, 1) := by decide +kernel
theorem dX6_read_74 : decode cX6_read 74 = .ok (.iinc 1 1, 3) := by decide +kernel
theorem dX6_read_77 : decode cX6_read 77 = .ok (.goto (-65), 3) := by decide +kernel
theorem dX6_read_80 : decode cX6_read 80 = .ok (.aload_n 0, 1) := by decide +kernel
theorem dX6_read_81 : decode cX6_read 81 = .ok (.getfield 36, 3) := by decide +kernel
theorem dX6_read_84 : decode cX6_read 84 = .ok (.ireturn, 1) := by decide +kernel
theorem dX6_readOrder_0 : decode cX6_readOrder 0 = .ok (.aload_n 0, 1) := by decide +kernel
theorem dX6_readOrder_1 : decode cX6_readOrder 1 = .ok (.getfield 36, 3) := by decide +kernel
theorem dX6_readOrder_4 : decode cX6_readOrder 4 = .ok (.aload_n 0, 1) := by decide +kernel
theorem dX6_readOrder_5 : decode cX6_readOrder 5 = .ok (.getfield 26, 3) := by decide +kernel
theorem dX6_readOrder_8 : decode cX6_readOrder 8 = .ok (.if_icmp .lt 5, 3) := by decide +kernel
theorem dX6_readOrder_11 : decode cX6_readOrder 11 = .ok (.iconst 0, 1) := by decide +kernel
theorem dX6_readOrder_12 : decode cX6_readOrder 12 = .ok (.ireturn, 1) := by decide +kernel
theorem dX6_readOrder_13 : decode cX6_readOrder 13 = .ok (.aload_n 1, 1) := by decide +kernel
theorem dX6_readOrder_14 : decode cX6_readOrder 14 = .ok (.aload_n 0, 1) := by decide +kernel
theorem dX6_readOrder_15 : decode cX6_readOrder 15 = .ok (.getfield 9, 3) := by decide +kernel
theorem dX6_readOrder_18 : decode cX6_readOrder 18 = .ok (.aload_n 0, 1) := by decide +kernel
theorem dX6_readOrder_19 : decode cX6_readOrder 19 = .ok (.getfield 36, 3) := by decide +kernel
theorem dX6_readOrder_22 : decode cX6_readOrder 22 = .ok (.caload, 1) := by decide +kernel
theorem dX6_readOrder_23 : decode cX6_readOrder 23 = .ok (.putfield 50, 3) := by decide +kernel
theorem dX6_readOrder_26 : decode cX6_readOrder 26 = .ok (.aload_n 1, 1) := by decide +kernel
theorem dX6_readOrder_27 : decode cX6_readOrder 27 = .ok (.getfield 50, 3) := by decide +kernel
theorem dX6_readOrder_30 : decode cX6_readOrder 30 = .ok (.tableswitch 242 98 116 #[210, 122, 242, 242, 242, 174, 242, 242, 242, 90, 242, 242, 242, 242, 138, 242, 242, 242, 138], 90) := by decide +kernel
theorem dX6_readOrder_120 : decode cX6_readOrder 120 = .ok (.aload_n 0, 1) := by decide +kernel
theorem dX6_readOrder_121 : decode cX6_readOrder 121 = .ok (.dup, 1) := by decide +kernel
theorem dX6_readOrder_122 : decode cX6_readOrder 122 = .ok (.getfield 36, 3) := by decide +kernel
theorem dX6_readOrder_125 : decode cX6_readOrder 125 = .ok (.iconst 1, 1) := by decide +kernel
theorem dX6_readOrder_126 : decode cX6_readOrder 126 = .ok (.iadd, 1) := by decide +kernel
theorem dX6_readOrder_127 : decode cX6_readOrder 127 = .ok (.putfield 36, 3) := by decide +kernel
theorem dX6_readOrder_130 : decode cX6_readOrder 130 = .ok (.aload_n 1, 1) := by decide +kernel
theorem dX6_readOrder_131 : decode cX6_readOrder 131 = .ok (.aload_n 0, 1) := by decide +kernel
theorem dX6_readOrder_132 : decode cX6_readOrder 132 = .ok (.invokevirtual 54, 3) := by decide +kernel
theorem dX6_readOrder_135 : decode cX6_readOrder 135 = .ok (.putfield 58, 3) := by decide +kernel
theorem dX6_readOrder_138 : decode cX6_readOrder 138 = .ok (.aload_n 1, 1) := by decide +kernel
theorem dX6_readOrder_139 : decode cX6_readOrder 139 = .ok (.getfield 58, 3) := by decide +kernel
theorem dX6_readOrder_142 : decode cX6_readOrder 142 = .ok (.iconst (-1), 1) := by decide +kernel
theorem dX6_readOrder_143 : decode cX6_readOrder 143 = .ok (.if_icmp .eq 7, 3) := by decide +kernel
theorem dX6_readOrder_146 : decode cX6_readOrder 146 = .ok (.iconst 1, 1) := by decide +kernel
theorem dX6_readOrder_147 : decode cX6_readOrder 147 = .ok (.goto 4, 3) := by decide +kernel
theorem dX6_readOrder_150 : decode cX6_readOrder 150 = .ok (.iconst 0, 1) := by decide +kernel
theorem dX6_readOrder_151 : decode cX6_readOrder 151 = .ok (.ireturn, 1) := by decide +kernel
theorem dX6_readOrder_152 : decode cX6_readOrder 152 = .ok (.aload_n 0, 1) := by decide +kernel
theorem dX6_readOrder_153 : decode cX6_readOrder 153 = .ok (.dup, 1) := by decide +kernel
theorem dX6_readOrder_154 : decode cX6_readOrder 154 = .ok (.getfield 36, 3) := by decide +kernel
theorem dX6_readOrder_157 : decode cX6_readOrder 157 = .ok (.iconst 1, 1) := by decide +kernel
theorem dX6_readOrder_158 : decode cX6_readOrder 158 = .ok (.iadd, 1) := by decide +kernel
theorem dX6_readOrder_159 : decode cX6_readOrder 159 = .ok (.putfield 36, 3) := by decide +kernel
theorem dX6_readOrder_162 : decode cX6_readOrder 162 = .ok (.aload_n 0, 1) := by decide +kernel
theorem dX6_readOrder_163 : decode cX6_readOrder 163 = .ok (.aload_n 1, 1) := by decide +kernel
theorem dX6_readOrder_164 : decode cX6_readOrder 164 = .ok (.invokevirtual 61, 3) := by decide +kernel
theorem dX6_readOrder_167 : decode cX6_readOrder 167 = .ok (.ireturn, 1) := by decide +kernel
theorem dX6_readOrder_168 : decode cX6_readOrder 168 = .ok (.aload_n 0, 1) := by decide +kernel
theorem dX6_readOrder_169 : decode cX6_readOrder 169 = .ok (.dup, 1) := by decide +kernel
theorem dX6_readOrder_170 : decode cX6_readOrder 170 = .ok (.getfield 36, 3) := by decide +kernel
theorem dX6_readOrder_173 : decode cX6_readOrder 173 = .ok (.iconst 1, 1) := by decide +kernel
theorem dX6_readOrder_174 : decode cX6_readOrder 174 = .ok (.iadd, 1) := by decide +kernel
theorem dX6_readOrder_175 : decode cX6_readOrder 175 = .ok (.putfield 36, 3) := by decide +kernel
theorem dX6_readOrder_178 : decode cX6_readOrder 178 = .ok (.aload_n 1, 1) := by decide +kernel
theorem dX6_readOrder_179 : decode cX6_readOrder 179 = .ok (.aload_n 0, 1) := by decide +kernel
theorem dX6_readOrder_180 : decode cX6_readOrder 180 = .ok (.bipush 65, 2) := by decide +kernel
theorem dX6_readOrder_182 : decode cX6_readOrder 182 = .ok (.bipush 80, 2) := by decide +kernel
theorem dX6_readOrder_184 : decode cX6_readOrder 184 = .ok (.invokevirtual 64, 3) := by decide +kernel
theorem dX6_readOrder_187 : decode cX6_readOrder 187 = .ok (.putfield 68, 3) := by decide +kernel
theorem dX6_readOrder_190 : decode cX6_readOrder 190 = .ok (.aload_n 1, 1) := by decide +kernel
theorem dX6_readOrder_191 : decode cX6_readOrder 191 = .ok (.getfield 68, 3) := by decide +kernel
theorem dX6_readOrder_194 : decode cX6_readOrder 194 = .ok (.iconst (-1), 1) := by decide +kernel
theorem dX6_readOrder_195 : decode cX6_readOrder 195 = .ok (.if_icmp .eq 7, 3) := by decide +kernel
theorem dX6_readOrder_198 : decode cX6_readOrder 198 = .ok (.iconst 1, 1) := by decide +kernel
theorem dX6_readOrder_199 : decode cX6_readOrder 199 = .ok (.goto 4, 3) := by decide +kernel
theorem dX6_readOrder_202 : decode cX6_readOrder 202 = .ok (.iconst 0, 1) := by decide +kernel
theorem dX6_readOrder_203 : decode cX6_readOrder 203 = .ok (.ireturn, 1) := by decide +kernel
theorem dX6_readOrder_204 : decode cX6_readOrder 204 = .ok (.aload_n 0, 1) := by decide +kernel
theorem dX6_readOrder_205 : decode cX6_readOrder 205 = .ok (.dup, 1) := by decide +kernel
theorem dX6_readOrder_206 : decode cX6_readOrder 206 = .ok (.getfield 36, 3) := by decide +kernel
theorem dX6_readOrder_209 : decode cX6_readOrder 209 = .ok (.iconst 1, 1) := by decide +kernel
theorem dX6_readOrder_210 : decode cX6_readOrder 210 = .ok (.iadd, 1) := by decide +kernel
theorem dX6_readOrder_211 : decode cX6_readOrder 211 = .ok (.putfield 36, 3) := by decide +kernel
theorem dX6_readOrder_214 : decode cX6_readOrder 214 = .ok (.aload_n 1, 1) := by decide +kernel
theorem dX6_readOrder_215 : decode cX6_readOrder 215 = .ok (.aload_n 0, 1) := by decide +kernel
theorem dX6_readOrder_216 : decode cX6_readOrder 216 = .ok (.bipush 48, 2) := by decide +kernel
theorem dX6_readOrder_218 : decode cX6_readOrder 218 = .ok (.bipush 57, 2) := by decide +kernel
theorem dX6_readOrder_220 : decode cX6_readOrder 220 = .ok (.invokevirtual 64, 3) := by decide +kernel
theorem dX6_readOrder_223 : decode cX6_readOrder 223 = .ok (.putfield 68, 3) := by decide +kernel
theorem dX6_readOrder_226 : decode cX6_readOrder 226 = .ok (.aload_n 1, 1) := by decide +kernel
theorem dX6_readOrder_227 : decode cX6_readOrder 227 = .ok (.getfield 68, 3) := by decide +kernel
theorem dX6_readOrder_230 : decode cX6_readOrder 230 = .ok (.iconst (-1), 1) := by decide +kernel
theorem dX6_readOrder_231 : decode cX6_readOrder 231 = .ok (.if_icmp .eq 7, 3) := by decide +kernel
theorem dX6_readOrder_234 : decode cX6_readOrder 234 = .ok (.iconst 1, 1) := by decide +kernel
theorem dX6_readOrder_235 : decode cX6_readOrder 235 = .ok (.goto 4, 3) := by decide +kernel
theorem dX6_readOrder_238 : decode cX6_readOrder 238 = .ok (.iconst 0, 1) := by decide +kernel
theorem dX6_readOrder_239 : decode cX6_readOrder 239 = .ok (.ireturn, 1) := by decide +kernel
theorem dX6_readOrder_240 : decode cX6_readOrder 240 = .ok (.aload_n 0, 1) := by decide +kernel
theorem dX6_readOrder_241 : decode cX6_readOrder 241 = .ok (.dup, 1) := by decide +kernel
theorem dX6_readOrder_242 : decode cX6_readOrder 242 = .ok (.getfield 36, 3) := by decide +kernel
theorem dX6_readOrder_245 : decode cX6_readOrder 245 = .ok (.iconst 1, 1) := by decide +kernel
theorem dX6_readOrder_246 : decode cX6_readOrder 246 = .ok (.iadd, 1) := by decide +kernel
theorem dX6_readOrder_247 : decode cX6_readOrder 247 = .ok (.putfield 36, 3) := by decide +kernel
theorem dX6_readOrder_250 : decode cX6_readOrder 250 = .ok (.aload_n 1, 1) := by decide +kernel
theorem dX6_readOrder_251 : decode cX6_readOrder 251 = .ok (.aload_n 0, 1) := by decide +kernel
theorem dX6_readOrder_252 : decode cX6_readOrder 252 = .ok (.invokevirtual 71, 3) := by decide +kernel
theorem dX6_readOrder_255 : decode cX6_readOrder 255 = .ok (.putfield 68, 3) := by decide +kernel
theorem dX6_readOrder_258 : decode cX6_readOrder 258 = .ok (.aload_n 1, 1) := by decide +kernel
theorem dX6_readOrder_259 : decode cX6_readOrder 259 = .ok (.getfield 68, 3) := by decide +kernel
theorem dX6_readOrder_262 : decode cX6_readOrder 262 = .ok (.iconst (-1), 1) := by decide +kernel
theorem dX6_readOrder_263 : decode cX6_readOrder 263 = .ok (.if_icmp .eq 7, 3) := by decide +kernel
theorem dX6_readOrder_266 : decode cX6_readOrder 266 = .ok (.iconst 1, 1) := by decide +kernel
theorem dX6_readOrder_267 : decode cX6_readOrder 267 = .ok (.goto 4, 3) := by decide +kernel
theorem dX6_readOrder_270 : decode cX6_readOrder 270 = .ok (.iconst 0, 1) := by decide +kernel
theorem dX6_readOrder_271 : decode cX6_readOrder 271 = .ok (.ireturn, 1) := by decide +kernel
theorem dX6_readOrder_272 : decode cX6_readOrder 272 = .ok (.iconst 0, 1) := by decide +kernel
theorem dX6_readOrder_273 : decode cX6_readOrder 273 = .ok (.ireturn, 1) := by decide +kernel
theorem dX6_readNewLock_0 : decode cX6_readNewLock 0 = .ok (.aload_n 1, 1) := by decide +kernel
theorem dX6_readNewLock_1 : decode cX6_readNewLock 1 = .ok (.aload_n 0, 1) := by decide +kernel
theorem dX6_readNewLock_2 : decode cX6_readNewLock 2 = .ok (.bipush 48, 2) := by decide +kernel
theorem dX6_readNewLock_4 : decode cX6_readNewLock 4 = .ok (.bipush 57, 2) := by decide +kernel
theorem dX6_readNewLock_6 : decode cX6_readNewLock 6 = .ok (.invokevirtual 64, 3) := by decide +kernel
theorem dX6_readNewLock_9 : decode cX6_readNewLock 9 = .ok (.putfield 68, 3) := by decide +kernel
theorem dX6_readNewLock_12 : decode cX6_readNewLock 12 = .ok (.aload_n 1, 1) := by decide +kernel
theorem dX6_readNewLock_13 : decode cX6_readNewLock 13 = .ok (.getfield 68, 3) := by decide +kernel
theorem dX6_readNewLock_16 : decode cX6_readNewLock 16 = .ok (.iconst (-1), 1) := by decide +kernel
theorem dX6_readNewLock_17 : decode cX6_readNewLock 17 = .ok (.if_icmp .eq 12, 3) := by decide +kernel
theorem dX6_readNewLock_20 : decode cX6_readNewLock 20 = .ok (.aload_n 0, 1) := by decide +kernel
theorem dX6_readNewLock_21 : decode cX6_readNewLock 21 = .ok (.bipush 61, 2) := by decide +kernel
theorem dX6_readNewLock_23 : decode cX6_readNewLock 23 = .ok (.invokevirtual 46, 3) := by decide +kernel
theorem dX6_readNewLock_26 : decode cX6_readNewLock 26 = .ok (.ifCond .ne 5, 3) := by decide +kernel
theorem dX6_readNewLock_29 : decode cX6_readNewLock 29 = .ok (.iconst 0, 1) := by decide +kernel
theorem dX6_readNewLock_30 : decode cX6_readNewLock 30 = .ok (.ireturn, 1) := by decide +kernel
theorem dX6_readNewLock_31 : decode cX6_readNewLock 31 = .ok (.aload_n 1, 1) := by decide +kernel
theorem dX6_readNewLock_32 : decode cX6_readNewLock 32 = .ok (.aload_n 0, 1) := by decide +kernel
theorem dX6_readNewLock_33 : decode cX6_readNewLock 33 = .ok (.invokevirtual 54, 3) := by decide +kernel
theorem dX6_readNewLock_36 : decode cX6_readNewLock 36 = .ok (.putfield 58, 3) := by decide +kernel
theorem dX6_readNewLock_39 : decode cX6_readNewLock 39 = .ok (.aload_n 1, 1) := by decide +kernel
theorem dX6_readNewLock_40 : decode cX6_readNewLock 40 = .ok (.getfield 58, 3) := by decide +kernel
theorem dX6_readNewLock_43 : decode cX6_readNewLock 43 = .ok (.iconst (-1), 1) := by decide +kernel
theorem dX6_readNewLock_44 : decode cX6_readNewLock 44 = .ok (.if_icmp .eq 12, 3) := by decide +kernel
theorem dX6_readNewLock_47 : decode cX6_readNewLock 47 = .ok (.aload_n 0, 1) := by decide +kernel
theorem dX6_readNewLock_48 : decode cX6_readNewLock 48 = .ok (.bipush 47, 2) := by decide +kernel
theorem dX6_readNewLock_50 : decode cX6_readNewLock 50 = .ok (.invokevirtual 46, 3) := by decide +kernel
theorem dX6_readNewLock_53 : decode cX6_readNewLock 53 = .ok (.ifCond .ne 5, 3) := by decide +kernel
theorem dX6_readNewLock_56 : decode cX6_readNewLock 56 = .ok (.iconst 0, 1) := by decide +kernel
theorem dX6_readNewLock_57 : decode cX6_readNewLock 57 = .ok (.ireturn, 1) := by decide +kernel
theorem dX6_readNewLock_58 : decode cX6_readNewLock 58 = .ok (.aload_n 1, 1) := by decide +kernel
theorem dX6_readNewLock_59 : decode cX6_readNewLock 59 = .ok (.aload_n 0, 1) := by decide +kernel
theorem dX6_readNewLock_60 : decode cX6_readNewLock 60 = .ok (.invokevirtual 54, 3) := by decide +kernel
theorem dX6_readNewLock_63 : decode cX6_readNewLock 63 = .ok (.putfield 74, 3) := by decide +kernel
theorem dX6_readNewLock_66 : decode cX6_readNewLock 66 = .ok (.aload_n 1, 1) := by decide +kernel
theorem dX6_readNewLock_67 : decode cX6_readNewLock 67 = .ok (.getfield 74, 3) := by decide +kernel
theorem dX6_readNewLock_70 : decode cX6_readNewLock 70 = .ok (.iconst (-1), 1) := by decide +kernel
theorem dX6_readNewLock_71 : decode cX6_readNewLock 71 = .ok (.if_icmp .eq 7, 3) := by decide +kernel
theorem dX6_readNewLock_74 : decode cX6_readNewLock 74 = .ok (.iconst 1, 1) := by decide +kernel
theorem dX6_readNewLock_75 : decode cX6_readNewLock 75 = .ok (.goto 4, 3) := by decide +kernel
theorem dX6_readNewLock_78 : decode cX6_readNewLock 78 = .ok (.iconst 0, 1) := by decide +kernel
theorem dX6_readNewLock_79 : decode cX6_readNewLock 79 = .ok (.ireturn, 1) := by decide +kernel
theorem dX6_readSign_0 : decode cX6_readSign 0 = .ok (.aload_n 0, 1) := by decide +kernel
theorem dX6_readSign_1 : decode cX6_readSign 1 = .ok (.getfield 36, 3) := by decide +kernel
theorem dX6_readSign_4 : decode cX6_readSign 4 = .ok (.aload_n 0, 1) := by decide +kernel
theorem dX6_readSign_5 : decode cX6_readSign 5 = .ok (.getfield 26, 3) := by decide +kernel
theorem dX6_readSign_8 : decode cX6_readSign 8 = .ok (.if_icmp .ge 16, 3) := by decide +kernel
theorem dX6_readSign_11 : decode cX6_readSign 11 = .ok (.aload_n 0, 1) := by decide +kernel
theorem dX6_readSign_12 : decode cX6_readSign 12 = .ok (.getfield 9, 3) := by decide +kernel
theorem dX6_readSign_15 : decode cX6_readSign 15 = .ok (.aload_n 0, 1) := by decide +kernel
theorem dX6_readSign_16 : decode cX6_readSign 16 = .ok (.getfield 36, 3) := by decide +kernel
theorem dX6_readSign_19 : decode cX6_readSign 19 = .ok (.caload, 1) := by decide +kernel
theorem dX6_readSign_20 : decode cX6_readSign 20 = .ok (.iload_n 1, 1) := by decide +kernel
theorem dX6_readSign_21 : decode cX6_readSign 21 = .ok (.if_icmp .eq 5, 3) := by decide +kernel
theorem dX6_readSign_24 : decode cX6_readSign 24 = .ok (.iconst 0, 1) := by decide +kernel
theorem dX6_readSign_25 : decode cX6_readSign 25 = .ok (.ireturn, 1) := by decide +kernel
theorem dX6_readSign_26 : decode cX6_readSign 26 = .ok (.aload_n 0, 1) := by decide +kernel
theorem dX6_readSign_27 : decode cX6_readSign 27 = .ok (.dup, 1) := by decide +kernel
theorem dX6_readSign_28 : decode cX6_readSign 28 = .ok (.getfield 36, 3) := by decide +kernel
theorem dX6_readSign_31 : decode cX6_readSign 31 = .ok (.iconst 1, 1) := by decide +kernel
theorem dX6_readSign_32 : decode cX6_readSign 32 = .ok (.iadd, 1) := by decide +kernel
theorem dX6_readSign_33 : decode cX6_readSign 33 = .ok (.putfield 36, 3) := by decide +kernel
theorem dX6_readSign_36 : decode cX6_readSign 36 = .ok (.iconst 1, 1) := by decide +kernel
theorem dX6_readSign_37 : decode cX6_readSign 37 = .ok (.ireturn, 1) := by decide +kernel
theorem dX6_readBetween_0 : decode cX6_readBetween 0 = .ok (.aload_n 0, 1) := by decide +kernel
theorem dX6_readBetween_1 : decode cX6_readBetween 1 = .ok (.getfield 36, 3) := by decide +kernel
theorem dX6_readBetween_4 : decode cX6_readBetween 4 = .ok (.aload_n 0, 1) := by decide +kernel
theorem dX6_readBetween_5 : decode cX6_readBetween 5 = .ok (.getfield 26, 3) := by decide +kernel
theorem dX6_readBetween_8 : decode cX6_readBetween 8 = .ok (.if_icmp .ge 29, 3) := by decide +kernel
theorem dX6_readBetween_11 : decode cX6_readBetween 11 = .ok (.aload_n 0, 1) := by decide +kernel
theorem dX6_readBetween_12 : decode cX6_readBetween 12 = .ok (.getfield 9, 3) := by decide +kernel
theorem dX6_readBetween_15 : decode cX6_readBetween 15 = .ok (.aload_n 0, 1) := by decide +kernel
theorem dX6_readBetween_16 : decode cX6_readBetween 16 = .ok (.getfield 36, 3) := by decide +kernel
theorem dX6_readBetween_19 : decode cX6_readBetween 19 = .ok (.caload, 1) := by decide +kernel
theorem dX6_readBetween_20 : decode cX6_readBetween 20 = .ok (.iload_n 1, 1) := by decide +kernel
theorem dX6_readBetween_21 : decode cX6_readBetween 21 = .ok (.if_icmp .lt 16, 3) := by decide +kernel
theorem dX6_readBetween_24 : decode cX6_readBetween 24 = .ok (.aload_n 0, 1) := by decide +kernel
theorem dX6_readBetween_25 : decode cX6_readBetween 25 = .ok (.getfield 9, 3) := by decide +kernel
theorem dX6_readBetween_28 : decode cX6_readBetween 28 = .ok (.aload_n 0, 1) := by decide +kernel
theorem dX6_readBetween_29 : decode cX6_readBetween 29 = .ok (.getfield 36, 3) := by decide +kernel
theorem dX6_readBetween_32 : decode cX6_readBetween 32 = .ok (.caload, 1) := by decide +kernel
theorem dX6_readBetween_33 : decode cX6_readBetween 33 = .ok (.iload_n 2, 1) := by decide +kernel
theorem dX6_readBetween_34 : decode cX6_readBetween 34 = .ok (.if_icmp .le 5, 3) := by decide +kernel
theorem dX6_readBetween_37 : decode cX6_readBetween 37 = .ok (.iconst (-1), 1) := by decide +kernel
theorem dX6_readBetween_38 : decode cX6_readBetween 38 = .ok (.ireturn, 1) := by decide +kernel
theorem dX6_readBetween_39 : decode cX6_readBetween 39 = .ok (.aload_n 0, 1) := by decide +kernel
theorem dX6_readBetween_40 : decode cX6_readBetween 40 = .ok (.dup, 1) := by decide +kernel
theorem dX6_readBetween_41 : decode cX6_readBetween 41 = .ok (.getfield 36, 3) := by decide +kernel
theorem dX6_readBetween_44 : decode cX6_readBetween 44 = .ok (.iconst 1, 1) := by decide +kernel
theorem dX6_readBetween_45 : decode cX6_readBetween 45 = .ok (.iadd, 1) := by decide +kernel
theorem dX6_readBetween_46 : decode cX6_readBetween 46 = .ok (.putfield 36, 3) := by decide +kernel
theorem dX6_readBetween_49 : decode cX6_readBetween 49 = .ok (.aload_n 0, 1) := by decide +kernel
theorem dX6_readBetween_50 : decode cX6_readBetween 50 = .ok (.getfield 9, 3) := by decide +kernel
theorem dX6_readBetween_53 : decode cX6_readBetween 53 = .ok (.aload_n 0, 1) := by decide +kernel
theorem dX6_readBetween_54 : decode cX6_readBetween 54 = .ok (.getfield 36, 3) := by decide +kernel
theorem dX6_readBetween_57 : decode cX6_readBetween 57 = .ok (.iconst 1, 1) := by decide +kernel
theorem dX6_readBetween_58 : decode cX6_readBetween 58 = .ok (.isub, 1) := by decide +kernel
theorem dX6_readBetween_59 : decode cX6_readBetween 59 = .ok (.caload, 1) := by decide +kernel
theorem dX6_readBetween_60 : decode cX6_readBetween 60 = .ok (.iload_n 1, 1) := by decide +kernel
theorem dX6_readBetween_61 : decode cX6_readBetween 61 = .ok (.isub, 1) := by decide +kernel
theorem dX6_readBetween_62 : decode cX6_readBetween 62 = .ok (.ireturn, 1) := by decide +kernel
theorem dX6_readCuts_0 : decode cX6_readCuts 0 = .ok (.iconst 0, 1) := by decide +kernel
theorem dX6_readCuts_1 : decode cX6_readCuts 1 = .ok (.istore_n 1, 1) := by decide +kernel
theorem dX6_readCuts_2 : decode cX6_readCuts 2 = .ok (.iconst 0, 1) := by decide +kernel
theorem dX6_readCuts_3 : decode cX6_readCuts 3 = .ok (.istore_n 2, 1) := by decide +kernel
theorem dX6_readCuts_4 : decode cX6_readCuts 4 = .ok (.iload_n 2, 1) := by decide +kernel
theorem dX6_readCuts_5 : decode cX6_readCuts 5 = .ok (.iconst 4, 1) := by decide +kernel
theorem dX6_readCuts_6 : decode cX6_readCuts 6 = .ok (.if_icmp .ge 32, 3) := by decide +kernel
theorem dX6_readCuts_9 : decode cX6_readCuts 9 = .ok (.aload_n 0, 1) := by decide +kernel
theorem dX6_readCuts_10 : decode cX6_readCuts 10 = .ok (.bipush 48, 2) := by decide +kernel
theorem dX6_readCuts_12 : decode cX6_readCuts 12 = .ok (.bipush 57, 2) := by decide +kernel
theorem dX6_readCuts_14 : decode cX6_readCuts 14 = .ok (.invokevirtual 64, 3) := by decide +kernel
theorem dX6_readCuts_17 : decode cX6_readCuts 17 = .ok (.istore_n 3, 1) := by decide +kernel
theorem dX6_readCuts_18 : decode cX6_readCuts 18 = .ok (.iload_n 3, 1) := by decide +kernel
theorem dX6_readCuts_19 : decode cX6_readCuts 19 = .ok (.iconst (-1), 1) := by decide +kernel
theorem dX6_readCuts_20 : decode cX6_readCuts 20 = .ok (.if_icmp .ne 5, 3) := by decide +kernel
theorem dX6_readCuts_23 : decode cX6_readCuts 23 = .ok (.iconst (-1), 1) := by decide +kernel
theorem dX6_readCuts_24 : decode cX6_readCuts 24 = .ok (.ireturn, 1) := by decide +kernel
theorem dX6_readCuts_25 : decode cX6_readCuts 25 = .ok (.iload_n 1, 1) := by decide +kernel
theorem dX6_readCuts_26 : decode cX6_readCuts 26 = .ok (.bipush 10, 2) := by decide +kernel
theorem dX6_readCuts_28 : decode cX6_readCuts 28 = .ok (.imul, 1) := by decide +kernel
theorem dX6_readCuts_29 : decode cX6_readCuts 29 = .ok (.iload_n 3, 1) := by decide +kernel
theorem dX6_readCuts_30 : decode cX6_readCuts 30 = .ok (.iadd, 1) := by decide +kernel
theorem dX6_readCuts_31 : decode cX6_readCuts 31 = .ok (.istore_n 1, 1) := by decide +kernel
theorem dX6_readCuts_32 : decode cX6_readCuts 32 = .ok (.iinc 2 1, 3) := by decide +kernel
theorem dX6_readCuts_35 : decode cX6_readCuts 35 = .ok (.goto (-31), 3) := by decide +kernel
theorem dX6_readCuts_38 : decode cX6_readCuts 38 = .ok (.iload_n 1, 1) := by decide +kernel
theorem dX6_readCuts_39 : decode cX6_readCuts 39 = .ok (.ireturn, 1) := by decide +kernel
theorem dX6_readNumber_0 : decode cX6_readNumber 0 = .ok (.aload_n 0, 1) := by decide +kernel
theorem dX6_readNumber_1 : decode cX6_readNumber 1 = .ok (.bipush 48, 2) := by decide +kernel
theorem dX6_readNumber_3 : decode cX6_readNumber 3 = .ok (.bipush 57, 2) := by decide +kernel
theorem dX6_readNumber_5 : decode cX6_readNumber 5 = .ok (.invokevirtual 64, 3) := by decide +kernel
theorem dX6_readNumber_8 : decode cX6_readNumber 8 = .ok (.istore_n 1, 1) := by decide +kernel
theorem dX6_readNumber_9 : decode cX6_readNumber 9 = .ok (.iload_n 1, 1) := by decide +kernel
theorem dX6_readNumber_10 : decode cX6_readNumber 10 = .ok (.iconst (-1), 1) := by decide +kernel
theorem dX6_readNumber_11 : decode cX6_readNumber 11 = .ok (.if_icmp .ne 5, 3) := by decide +kernel
theorem dX6_readNumber_14 : decode cX6_readNumber 14 = .ok (.iconst (-1), 1) := by decide +kernel
theorem dX6_readNumber_15 : decode cX6_readNumber 15 = .ok (.ireturn, 1) := by decide +kernel
theorem dX6_readNumber_16 : decode cX6_readNumber 16 = .ok (.iconst 1, 1) := by decide +kernel
theorem dX6_readNumber_17 : decode cX6_readNumber 17 = .ok (.istore_n 2, 1) := by decide +kernel
theorem dX6_readNumber_18 : decode cX6_readNumber 18 = .ok (.iload_n 2, 1) := by decide +kernel
theorem dX6_readNumber_19 : decode cX6_readNumber 19 = .ok (.iconst 3, 1) := by decide +kernel
theorem dX6_readNumber_20 : decode cX6_readNumber 20 = .ok (.if_icmp .ge 36, 3) := by decide +kernel
theorem dX6_readNumber_23 : decode cX6_readNumber 23 = .ok (.iload_n 1, 1) := by decide +kernel
theorem dX6_readNumber_24 : decode cX6_readNumber 24 = .ok (.ifCond .le 32, 3) := by decide +kernel
theorem dX6_readNumber_27 : decode cX6_readNumber 27 = .ok (.aload_n 0, 1) := by decide +kernel
theorem dX6_readNumber_28 : decode cX6_readNumber 28 = .ok (.bipush 48, 2) := by decide +kernel
theorem dX6_readNumber_30 : decode cX6_readNumber 30 = .ok (.bipush 57, 2) := by decide +kernel
theorem dX6_readNumber_32 : decode cX6_readNumber 32 = .ok (.invokevirtual 64, 3) := by decide +kernel
theorem dX6_readNumber_35 : decode cX6_readNumber 35 = .ok (.istore_n 3, 1) := by decide +kernel
theorem dX6_readNumber_36 : decode cX6_readNumber 36 = .ok (.iload_n 3, 1) := by decide +kernel
theorem dX6_readNumber_37 : decode cX6_readNumber 37 = .ok (.iconst (-1), 1) := by decide +kernel
theorem dX6_readNumber_38 : decode cX6_readNumber 38 = .ok (.if_icmp .ne 5, 3) := by decide +kernel
theorem dX6_readNumber_41 : decode cX6_readNumber 41 = .ok (.iload_n 1, 1) := by decide +kernel
theorem dX6_readNumber_42 : decode cX6_readNumber 42 = .ok (.ireturn, 1) := by decide +kernel
theorem dX6_readNumber_43 : decode cX6_readNumber 43 = .ok (.iload_n 1, 1) := by decide +kernel
theorem dX6_readNumber_44 : decode cX6_readNumber 44 = .ok (.bipush 10, 2) := by decide +kernel
theorem dX6_readNumber_46 : decode cX6_readNumber 46 = .ok (.imul, 1) := by decide +kernel
theorem dX6_readNumber_47 : decode cX6_readNumber 47 = .ok (.iload_n 3, 1) := by decide +kernel
theorem dX6_readNumber_48 : decode cX6_readNumber 48 = .ok (.iadd, 1) := by decide +kernel
theorem dX6_readNumber_49 : decode cX6_readNumber 49 = .ok (.istore_n 1, 1) := by decide +kernel
theorem dX6_readNumber_50 : decode cX6_readNumber 50 = .ok (.iinc 2 1, 3) := by decide +kernel
theorem dX6_readNumber_53 : decode cX6_readNumber 53 = .ok (.goto (-35), 3) := by decide +kernel
theorem dX6_readNumber_56 : decode cX6_readNumber 56 = .ok (.iload_n 1, 1) := by decide +kernel
theorem dX6_readNumber_57 : decode cX6_readNumber 57 = .ok (.ireturn, 1) := by decide +kernel
theorem dX7_init_0 : decode cX7_init 0 = .ok (.aload_n 0, 1) := by decide +kernel
theorem dX7_init_1 : decode cX7_init 1 = .ok (.invokespecial 3, 3) := by decide +kernel
theorem dX7_init_4 : decode cX7_init 4 = .ok (.aload_n 0, 1) := by decide +kernel
theorem dX7_init_5 : decode cX7_init 5 = .ok (.bipush 6, 2) := by decide +kernel
theorem dX7_init_7 : decode cX7_init 7 = .ok (.newarray .int, 2) := by decide +kernel
theorem dX7_init_9 : decode cX7_init 9 = .ok (.putfield 9, 3) := by decide +kernel
theorem dX7_init_12 : decode cX7_init 12 = .ok (.aload_n 0, 1) := by decide +kernel
theorem dX7_init_13 : decode cX7_init 13 = .ok (.bipush 6, 2) := by decide +kernel
theorem dX7_init_15 : decode cX7_init 15 = .ok (.newarray .int, 2) := by decide +kernel
theorem dX7_init_17 : decode cX7_init 17 = .ok (.putfield 15, 3) := by decide +kernel
theorem dX7_init_20 : decode cX7_init 20 = .ok (.aload_n 0, 1) := by decide +kernel
theorem dX7_init_21 : decode cX7_init 21 = .ok (.bipush 6, 2) := by decide +kernel
theorem dX7_init_23 : decode cX7_init 23 = .ok (.newarray .int, 2) := by decide +kernel
theorem dX7_init_25 : decode cX7_init 25 = .ok (.putfield 18, 3) := by decide +kernel
theorem dX7_init_28 : decode cX7_init 28 = .ok (.return_, 1) := by decide +kernel
theorem dX7_copyFrom_0 : decode cX7_copyFrom 0 = .ok (.iconst 0, 1) := by decide +kernel
theorem dX7_copyFrom_1 : decode cX7_copyFrom 1 = .ok (.istore_n 2, 1) := by decide +kernel
theorem dX7_copyFrom_2 : decode cX7_copyFrom 2 = .ok (.iload_n 2, 1) := by decide +kernel
theorem dX7_copyFrom_3 : decode cX7_copyFrom 3 = .ok (.aload_n 1, 1) := by decide +kernel
theorem dX7_copyFrom_4 : decode cX7_copyFrom 4 = .ok (.getfield 21, 3) := by decide +kernel
theorem dX7_copyFrom_7 : decode cX7_copyFrom 7 = .ok (.if_icmp .ge 45, 3) := by decide +kernel
theorem dX7_copyFrom_10 : decode cX7_copyFrom 10 = .ok (.aload_n 0, 1) := by decide +kernel
theorem dX7_copyFrom_11 : decode cX7_copyFrom 11 = .ok (.getfield 9, 3) := by decide +kernel
theorem dX7_copyFrom_14 : decode cX7_copyFrom 14 = .ok (.iload_n 2, 1) := by decide +kernel
theorem dX7_copyFrom_15 : decode cX7_copyFrom 15 = .ok (.aload_n 1, 1) := by decide +kernel
theorem dX7_copyFrom_16 : decode cX7_copyFrom 16 = .ok (.getfield 9, 3) := by decide +kernel
theorem dX7_copyFrom_19 : decode cX7_copyFrom 19 = .ok (.iload_n 2, 1) := by decide +kernel
theorem dX7_copyFrom_20 : decode cX7_copyFrom 20 = .ok (.iaload, 1) := by decide +kernel
theorem dX7_copyFrom_21 : decode cX7_copyFrom 21 = .ok (.iastore, 1) := by decide +kernel
theorem dX7_copyFrom_22 : decode cX7_copyFrom 22 = .ok (.aload_n 0, 1) := by decide +kernel
theorem dX7_copyFrom_23 : decode cX7_copyFrom 23 = .ok (.getfield 15, 3) := by decide +kernel
theorem dX7_copyFrom_26 : decode cX7_copyFrom 26 = .ok (.iload_n 2, 1) := by decide +kernel
theorem dX7_copyFrom_27 : decode cX7_copyFrom 27 = .ok (.aload_n 1, 1) := by decide +kernel
theorem dX7_copyFrom_28 : decode cX7_copyFrom 28 = .ok (.getfield 15, 3) := by decide +kernel
theorem dX7_copyFrom_31 : decode cX7_copyFrom 31 = .ok (.iload_n 2, 1) := by decide +kernel
theorem dX7_copyFrom_32 : decode cX7_copyFrom 32 = .ok (.iaload, 1) := by decide +kernel
theorem dX7_copyFrom_33 : decode cX7_copyFrom 33 = .ok (.iastore, 1) := by decide +kernel
theorem dX7_copyFrom_34 : decode cX7_copyFrom 34 = .ok (.aload_n 0, 1) := by decide +kernel
theorem dX7_copyFrom_35 : decode cX7_copyFrom 35 = .ok (.getfield 18, 3) := by decide +kernel
theorem dX7_copyFrom_38 : decode cX7_copyFrom 38 = .ok (.iload_n 2, 1) := by decide +kernel
theorem dX7_copyFrom_39 : decode cX7_copyFrom 39 = .ok (.aload_n 1, 1) := by decide +kernel
theorem dX7_copyFrom_40 : decode cX7_copyFrom 40 = .ok (.getfield 18, 3) := by decide +kernel
theorem dX7_copyFrom_43 : decode cX7_copyFrom 43 = .ok (.iload_n 2, 1) := by decide +kernel
theorem dX7_copyFrom_44 : decode cX7_copyFrom 44 = .ok (.iaload, 1) := by decide +kernel
theorem dX7_copyFrom_45 : decode cX7_copyFrom 45 = .ok (.iastore, 1) := by decide +kernel
theorem dX7_copyFrom_46 : decode cX7_copyFrom 46 = .ok (.iinc 2 1, 3) := by decide +kernel
theorem dX7_copyFrom_49 : decode cX7_copyFrom 49 = .ok (.goto (-47), 3) := by decide +kernel
theorem dX7_copyFrom_52 : decode cX7_copyFrom 52 = .ok (.aload_n 0, 1) := by decide +kernel
theorem dX7_copyFrom_53 : decode cX7_copyFrom 53 = .ok (.aload_n 1, 1) := by decide +kernel
theorem dX7_copyFrom_54 : decode cX7_copyFrom 54 = .ok (.getfield 21, 3) := by decide +kernel
theorem dX7_copyFrom_57 : decode cX7_copyFrom 57 = .ok (.putfield 21, 3) := by decide +kernel
theorem dX7_copyFrom_60 : decode cX7_copyFrom 60 = .ok (.return_, 1) := by decide +kernel
theorem dX7_placeOf_0 : decode cX7_placeOf 0 = .ok (.iconst 0, 1) := by decide +kernel
theorem dX7_placeOf_1 : decode cX7_placeOf 1 = .ok (.istore_n 2, 1) := by decide +kernel
theorem dX7_placeOf_2 : decode cX7_placeOf 2 = .ok (.iload_n 2, 1) := by decide +kernel
theorem dX7_placeOf_3 : decode cX7_placeOf 3 = .ok (.aload_n 0, 1) := by decide +kernel
theorem dX7_placeOf_4 : decode cX7_placeOf 4 = .ok (.getfield 21, 3) := by decide +kernel
theorem dX7_placeOf_7 : decode cX7_placeOf 7 = .ok (.if_icmp .ge 21, 3) := by decide +kernel
theorem dX7_placeOf_10 : decode cX7_placeOf 10 = .ok (.aload_n 0, 1) := by decide +kernel
theorem dX7_placeOf_11 : decode cX7_placeOf 11 = .ok (.getfield 9, 3) := by decide +kernel
theorem dX7_placeOf_14 : decode cX7_placeOf 14 = .ok (.iload_n 2, 1) := by decide +kernel
theorem dX7_placeOf_15 : decode cX7_placeOf 15 = .ok (.iaload, 1) := by decide +kernel
theorem dX7_placeOf_16 : decode cX7_placeOf 16 = .ok (.iload_n 1, 1) := by decide +kernel
theorem dX7_placeOf_17 : decode cX7_placeOf 17 = .ok (.if_icmp .ne 5, 3) := by decide +kernel
theorem dX7_placeOf_20 : decode cX7_placeOf 20 = .ok (.iload_n 2, 1) := by decide +kernel
theorem dX7_placeOf_21 : decode cX7_placeOf 21 = .ok (.ireturn, 1) := by decide +kernel
theorem dX7_placeOf_22 : decode cX7_placeOf 22 = .ok (.iinc 2 1, 3) := by decide +kernel
theorem dX7_placeOf_25 : decode cX7_placeOf 25 = .ok (.goto (-23), 3) := by decide +kernel
theorem dX7_placeOf_28 : decode cX7_placeOf 28 = .ok (.bipush (-6), 2) := by decide +kernel
theorem dX7_placeOf_30 : decode cX7_placeOf 30 = .ok (.ireturn, 1) := by decide +kernel
theorem dX8_init_0 : decode cX8_init 0 = .ok (.aload_n 0, 1) := by decide +kernel
theorem dX8_init_1 : decode cX8_init 1 = .ok (.invokespecial 3, 3) := by decide +kernel
theorem dX8_init_4 : decode cX8_init 4 = .ok (.aload_n 0, 1) := by decide +kernel
theorem dX8_init_5 : decode cX8_init 5 = .ok (.bipush 6, 2) := by decide +kernel
theorem dX8_init_7 : decode cX8_init 7 = .ok (.newarray .int, 2) := by decide +kernel
theorem dX8_init_9 : decode cX8_init 9 = .ok (.putfield 9, 3) := by decide +kernel
theorem dX8_init_12 : decode cX8_init 12 = .ok (.aload_n 0, 1) := by decide +kernel
theorem dX8_init_13 : decode cX8_init 13 = .ok (.bipush 6, 2) := by decide +kernel
theorem dX8_init_15 : decode cX8_init 15 = .ok (.newarray .int, 2) := by decide +kernel
theorem dX8_init_17 : decode cX8_init 17 = .ok (.putfield 15, 3) := by decide +kernel
theorem dX8_init_20 : decode cX8_init 20 = .ok (.aload_n 0, 1) := by decide +kernel
theorem dX8_init_21 : decode cX8_init 21 = .ok (.bipush 64, 2) := by decide +kernel
theorem dX8_init_23 : decode cX8_init 23 = .ok (.newarray .int, 2) := by decide +kernel
theorem dX8_init_25 : decode cX8_init 25 = .ok (.putfield 18, 3) := by decide +kernel
theorem dX8_init_28 : decode cX8_init 28 = .ok (.aload_n 0, 1) := by decide +kernel
theorem dX8_init_29 : decode cX8_init 29 = .ok (.bipush 64, 2) := by decide +kernel
theorem dX8_init_31 : decode cX8_init 31 = .ok (.newarray .int, 2) := by decide +kernel
theorem dX8_init_33 : decode cX8_init 33 = .ok (.putfield 21, 3) := by decide +kernel
theorem dX8_init_36 : decode cX8_init 36 = .ok (.aload_n 0, 1) := by decide +kernel
theorem dX8_init_37 : decode cX8_init 37 = .ok (.bipush 64, 2) := by decide +kernel
theorem dX8_init_39 : decode cX8_init 39 = .ok (.newarray .int, 2) := by decide +kernel
theorem dX8_init_41 : decode cX8_init 41 = .ok (.putfield 24, 3) := by decide +kernel
theorem dX8_init_44 : decode cX8_init 44 = .ok (.aload_n 0, 1) := by decide +kernel
theorem dX8_init_45 : decode cX8_init 45 = .ok (.bipush 64, 2) := by decide +kernel
theorem dX8_init_47 : decode cX8_init 47 = .ok (.newarray .int, 2) := by decide +kernel
theorem dX8_init_49 : decode cX8_init 49 = .ok (.putfield 27, 3) := by decide +kernel
theorem dX8_init_52 : decode cX8_init 52 = .ok (.return_, 1) := by decide +kernel
theorem dX8_work_0 : decode cX8_work 0 = .ok (.aload_n 0, 1) := by decide +kernel
theorem dX8_work_1 : decode cX8_work 1 = .ok (.aload_n 1, 1) := by decide +kernel
theorem dX8_work_2 : decode cX8_work 2 = .ok (.getfield 30, 3) := by decide +kernel
theorem dX8_work_5 : decode cX8_work 5 = .ok (.getfield 36, 3) := by decide +kernel
theorem dX8_work_8 : decode cX8_work 8 = .ok (.putfield 42, 3) := by decide +kernel
theorem dX8_work_11 : decode cX8_work 11 = .ok (.iconst 0, 1) := by decide +kernel
theorem dX8_work_12 : decode cX8_work 12 = .ok (.istore_n 2, 1) := by decide +kernel
theorem dX8_work_13 : decode cX8_work 13 = .ok (.iload_n 2, 1) := by decide +kernel
theorem dX8_work_14 : decode cX8_work 14 = .ok (.aload_n 0, 1) := by decide +kernel
theorem dX8_work_15 : decode cX8_work 15 = .ok (.getfield 42, 3) := by decide +kernel
theorem dX8_work_18 : decode cX8_work 18 = .ok (.if_icmp .ge 15, 3) := by decide +kernel
theorem dX8_work_21 : decode cX8_work 21 = .ok (.aload_n 0, 1) := by decide +kernel
theorem dX8_work_22 : decode cX8_work 22 = .ok (.aload_n 1, 1) := by decide +kernel
theorem dX8_work_23 : decode cX8_work 23 = .ok (.iload_n 2, 1) := by decide +kernel
theorem dX8_work_24 : decode cX8_work 24 = .ok (.invokevirtual 43, 3) := by decide +kernel
theorem dX8_work_27 : decode cX8_work 27 = .ok (.iinc 2 1, 3) := by decide +kernel
theorem dX8_work_30 : decode cX8_work 30 = .ok (.goto (-17), 3) := by decide +kernel
theorem dX8_work_33 : decode cX8_work 33 = .ok (.iconst 1, 1) := by decide +kernel
theorem dX8_work_34 : decode cX8_work 34 = .ok (.aload_n 0, 1) := by decide +kernel
theorem dX8_work_35 : decode cX8_work 35 = .ok (.getfield 42, 3) := by decide +kernel
theorem dX8_work_38 : decode cX8_work 38 = .ok (.ishl, 1) := by decide +kernel
theorem dX8_work_39 : decode cX8_work 39 = .ok (.iconst 1, 1) := by decide +kernel
theorem dX8_work_40 : decode cX8_work 40 = .ok (.isub, 1) := by decide +kernel
theorem dX8_work_41 : decode cX8_work 41 = .ok (.istore_n 2, 1) := by decide +kernel
theorem dX8_work_42 : decode cX8_work 42 = .ok (.iconst 0, 1) := by decide +kernel
theorem dX8_work_43 : decode cX8_work 43 = .ok (.istore_n 3, 1) := by decide +kernel
theorem dX8_work_44 : decode cX8_work 44 = .ok (.iload_n 3, 1) := by decide +kernel
theorem dX8_work_45 : decode cX8_work 45 = .ok (.iload_n 2, 1) := by decide +kernel
theorem dX8_work_46 : decode cX8_work 46 = .ok (.if_icmp .gt 25, 3) := by decide +kernel
theorem dX8_work_49 : decode cX8_work 49 = .ok (.aload_n 0, 1) := by decide +kernel
theorem dX8_work_50 : decode cX8_work 50 = .ok (.getfield 18, 3) := by decide +kernel
theorem dX8_work_53 : decode cX8_work 53 = .ok (.iload_n 3, 1) := by decide +kernel
theorem dX8_work_54 : decode cX8_work 54 = .ok (.aload_n 1, 1) := by decide +kernel
theorem dX8_work_55 : decode cX8_work 55 = .ok (.getfield 47, 3) := by decide +kernel
theorem dX8_work_58 : decode cX8_work 58 = .ok (.aload_n 0, 1) := by decide +kernel
theorem dX8_work_59 : decode cX8_work 59 = .ok (.iload_n 3, 1) := by decide +kernel
theorem dX8_work_60 : decode cX8_work 60 = .ok (.invokevirtual 50, 3) := by decide +kernel
theorem dX8_work_63 : decode cX8_work 63 = .ok (.iadd, 1) := by decide +kernel
theorem dX8_work_64 : decode cX8_work 64 = .ok (.iastore, 1) := by decide +kernel
theorem dX8_work_65 : decode cX8_work 65 = .ok (.iinc 3 1, 3) := by decide +kernel
theorem dX8_work_68 : decode cX8_work 68 = .ok (.goto (-24), 3) := by decide +kernel
theorem dX8_work_71 : decode cX8_work 71 = .ok (.aload_n 0, 1) := by decide +kernel
theorem dX8_work_72 : decode cX8_work 72 = .ok (.getfield 21, 3) := by decide +kernel
theorem dX8_work_75 : decode cX8_work 75 = .ok (.iload_n 2, 1) := by decide +kernel
theorem dX8_work_76 : decode cX8_work 76 = .ok (.iconst 1, 1) := by decide +kernel
theorem dX8_work_77 : decode cX8_work 77 = .ok (.iastore, 1) := by decide +kernel
theorem dX8_work_78 : decode cX8_work 78 = .ok (.aload_n 0, 1) := by decide +kernel
theorem dX8_work_79 : decode cX8_work 79 = .ok (.getfield 24, 3) := by decide +kernel
theorem dX8_work_82 : decode cX8_work 82 = .ok (.iload_n 2, 1) := by decide +kernel
theorem dX8_work_83 : decode cX8_work 83 = .ok (.iconst 0, 1) := by decide +kernel
theorem dX8_work_84 : decode cX8_work 84 = .ok (.iastore, 1) := by decide +kernel
theorem dX8_work_85 : decode cX8_work 85 = .ok (.aload_n 0, 1) := by decide +kernel
theorem dX8_work_86 : decode cX8_work 86 = .ok (.getfield 27, 3) := by decide +kernel
theorem dX8_work_89 : decode cX8_work 89 = .ok (.iload_n 2, 1) := by decide +kernel
theorem dX8_work_90 : decode cX8_work 90 = .ok (.iconst 0, 1) := by decide +kernel
theorem dX8_work_91 : decode cX8_work 91 = .ok (.iastore, 1) := by decide +kernel
theorem dX8_work_92 : decode cX8_work 92 = .ok (.iload_n 2, 1) := by decide +kernel
theorem dX8_work_93 : decode cX8_work 93 = .ok (.iconst 1, 1) := by decide +kernel
theorem dX8_work_94 : decode cX8_work 94 = .ok (.isub, 1) := by decide +kernel
theorem dX8_work_95 : decode cX8_work 95 = .ok (.istore_n 3, 1) := by decide +kernel
theorem dX8_work_96 : decode cX8_work 96 = .ok (.iload_n 3, 1) := by decide +kernel
theorem dX8_work_97 : decode cX8_work 97 = .ok (.ifCond .lt 14, 3) := by decide +kernel
theorem dX8_work_100 : decode cX8_work 100 = .ok (.aload_n 0, 1) := by decide +kernel
theorem dX8_work_101 : decode cX8_work 101 = .ok (.iload_n 3, 1) := by decide +kernel
theorem dX8_work_102 : decode cX8_work 102 = .ok (.invokevirtual 54, 3) := by decide +kernel
theorem dX8_work_105 : decode cX8_work 105 = .ok (.iinc 3 (-1), 3) := by decide +kernel
theorem dX8_work_108 : decode cX8_work 108 = .ok (.goto (-12), 3) := by decide +kernel
theorem dX8_work_111 : decode cX8_work 111 = .ok (.return_, 1) := by decide +kernel
theorem dX8_weigh_0 : decode cX8_weigh 0 = .ok (.aload_n 1, 1) := by decide +kernel
theorem dX8_weigh_1 : decode cX8_weigh 1 = .ok (.getfield 58, 3) := by decide +kernel
theorem dX8_weigh_4 : decode cX8_weigh 4 = .ok (.aload_n 1, 1) := by decide +kernel
theorem dX8_weigh_5 : decode cX8_weigh 5 = .ok (.getfield 30, 3) := by decide +kernel
theorem dX8_weigh_8 : decode cX8_weigh 8 = .ok (.getfield 62, 3) := by decide +kernel
theorem dX8_weigh_11 : decode cX8_weigh 11 = .ok (.iload_n 2, 1) := by decide +kernel
theorem dX8_weigh_12 : decode cX8_weigh 12 = .ok (.iaload, 1) := by decide +kernel
theorem dX8_weigh_13 : decode cX8_weigh 13 = .ok (.aaload, 1) := by decide +kernel
theorem dX8_weigh_14 : decode cX8_weigh 14 = .ok (.invokevirtual 64, 3) := by decide +kernel
theorem dX8_weigh_17 : decode cX8_weigh 17 = .ok (.istore_n 3, 1) := by decide +kernel
theorem dX8_weigh_18 : decode cX8_weigh 18 = .ok (.aload_n 0, 1) := by decide +kernel
theorem dX8_weigh_19 : decode cX8_weigh 19 = .ok (.getfield 9, 3) := by decide +kernel
theorem dX8_weigh_22 : decode cX8_weigh 22 = .ok (.iload_n 2, 1) := by decide +kernel
theorem dX8_weigh_23 : decode cX8_weigh 23 = .ok (.iload_n 3, 1) := by decide +kernel
theorem dX8_weigh_24 : decode cX8_weigh 24 = .ok (.iload_n 3, 1) := by decide +kernel
theorem dX8_weigh_25 : decode cX8_weigh 25 = .ok (.aload_n 1, 1) := by decide +kernel
theorem dX8_weigh_26 : decode cX8_weigh 26 = .ok (.getfield 70, 3) := by decide +kernel
theorem dX8_weigh_29 : decode cX8_weigh 29 = .ok (.iconst 1, 1) := by decide +kernel
theorem dX8_weigh_30 : decode cX8_weigh 30 = .ok (.iaload, 1) := by decide +kernel
theorem dX8_weigh_31 : decode cX8_weigh 31 = .ok (.invokestatic 73, 3) := by decide +kernel
theorem dX8_weigh_34 : decode cX8_weigh 34 = .ok (.isub, 1) := by decide +kernel
theorem dX8_weigh_35 : decode cX8_weigh 35 = .ok (.iastore, 1) := by decide +kernel
theorem dX8_weigh_36 : decode cX8_weigh 36 = .ok (.aload_n 0, 1) := by decide +kernel
theorem dX8_weigh_37 : decode cX8_weigh 37 = .ok (.getfield 15, 3) := by decide +kernel
theorem dX8_weigh_40 : decode cX8_weigh 40 = .ok (.iload_n 2, 1) := by decide +kernel
theorem dX8_weigh_41 : decode cX8_weigh 41 = .ok (.aload_n 1, 1) := by decide +kernel
theorem dX8_weigh_42 : decode cX8_weigh 42 = .ok (.getfield 30, 3) := by decide +kernel
theorem dX8_weigh_45 : decode cX8_weigh 45 = .ok (.getfield 79, 3) := by decide +kernel
theorem dX8_weigh_48 : decode cX8_weigh 48 = .ok (.iload_n 2, 1) := by decide +kernel
theorem dX8_weigh_49 : decode cX8_weigh 49 = .ok (.iaload, 1) := by decide +kernel
theorem dX8_weigh_50 : decode cX8_weigh 50 = .ok (.aload_n 1, 1) := by decide +kernel
theorem dX8_weigh_51 : decode cX8_weigh 51 = .ok (.getfield 30, 3) := by decide +kernel
theorem dX8_weigh_54 : decode cX8_weigh 54 = .ok (.getfield 82, 3) := by decide +kernel
theorem dX8_weigh_57 : decode cX8_weigh 57 = .ok (.iload_n 2, 1) := by decide +kernel
theorem dX8_weigh_58 : decode cX8_weigh 58 = .ok (.iaload, 1) := by decide +kernel
theorem dX8_weigh_59 : decode cX8_weigh 59 = .ok (.invokestatic 85, 3) := by decide +kernel
theorem dX8_weigh_62 : decode cX8_weigh 62 = .ok (.iastore, 1) := by decide +kernel
theorem dX8_weigh_63 : decode cX8_weigh 63 = .ok (.return_, 1) := by decide +kernel
theorem dX8_gainOf_0 : decode cX8_gainOf 0 = .ok (.iconst 0, 1) := by decide +kernel
theorem dX8_gainOf_1 : decode cX8_gainOf 1 = .ok (.istore_n 2, 1) := by decide +kernel
theorem dX8_gainOf_2 : decode cX8_gainOf 2 = .ok (.iconst 0, 1) := by decide +kernel
theorem dX8_gainOf_3 : decode cX8_gainOf 3 = .ok (.istore_n 3, 1) := by decide +kernel
theorem dX8_gainOf_4 : decode cX8_gainOf 4 = .ok (.iload_n 3, 1) := by decide +kernel
theorem dX8_gainOf_5 : decode cX8_gainOf 5 = .ok (.aload_n 0, 1) := by decide +kernel
theorem dX8_gainOf_6 : decode cX8_gainOf 6 = .ok (.getfield 42, 3) := by decide +kernel
theorem dX8_gainOf_9 : decode cX8_gainOf 9 = .ok (.if_icmp .ge 33, 3) := by decide +kernel
theorem dX8_gainOf_12 : decode cX8_gainOf 12 = .ok (.iload_n 1, 1) := by decide +kernel
theorem dX8_gainOf_13 : decode cX8_gainOf 13 = .ok (.iload_n 3, 1) := by decide +kernel
theorem dX8_gainOf_14 : decode cX8_gainOf 14 = .ok (.ishr, 1) := by decide +kernel
theorem dX8_gainOf_15 : decode cX8_gainOf 15 = .ok (.iconst 1, 1) := by decide +kernel
theorem dX8_gainOf_16 : decode cX8_gainOf 16 = .ok (.iand, 1) := by decide +kernel
theorem dX8_gainOf_17 : decode cX8_gainOf 17 = .ok (.ifCond .eq 19, 3) := by decide +kernel
theorem dX8_gainOf_20 : decode cX8_gainOf 20 = .ok (.iload_n 2, 1) := by decide +kernel
theorem dX8_gainOf_21 : decode cX8_gainOf 21 = .ok (.aload_n 0, 1) := by decide +kernel
theorem dX8_gainOf_22 : decode cX8_gainOf 22 = .ok (.getfield 9, 3) := by decide +kernel
theorem dX8_gainOf_25 : decode cX8_gainOf 25 = .ok (.iload_n 3, 1) := by decide +kernel
theorem dX8_gainOf_26 : decode cX8_gainOf 26 = .ok (.iaload, 1) := by decide +kernel
theorem dX8_gainOf_27 : decode cX8_gainOf 27 = .ok (.aload_n 0, 1) := by decide +kernel
theorem dX8_gainOf_28 : decode cX8_gainOf 28 = .ok (.getfield 15, 3) := by decide +kernel
theorem dX8_gainOf_31 : decode cX8_gainOf 31 = .ok (.iload_n 3, 1) := by decide +kernel
theorem dX8_gainOf_32 : decode cX8_gainOf 32 = .ok (.iaload, 1) := by decide +kernel
theorem dX8_gainOf_33 : decode cX8_gainOf 33 = .ok (.isub, 1) := by decide +kernel
theorem dX8_gainOf_34 : decode cX8_gainOf 34 = .ok (.iadd, 1) := by decide +kernel
theorem dX8_gainOf_35 : decode cX8_gainOf 35 = .ok (.istore_n 2, 1) := by decide +kernel
theorem dX8_gainOf_36 : decode cX8_gainOf 36 = .ok (.iinc 3 1, 3) := by decide +kernel
theorem dX8_gainOf_39 : decode cX8_gainOf 39 = .ok (.goto (-35), 3) := by decide +kernel
theorem dX8_gainOf_42 : decode cX8_gainOf 42 = .ok (.iload_n 2, 1) := by decide +kernel
theorem dX8_gainOf_43 : decode cX8_gainOf 43 = .ok (.ireturn, 1) := by decide +kernel
theorem dX8_missingFor_0 : decode cX8_missingFor 0 = .ok (.iconst 0, 1) := by decide +kernel
theorem dX8_missingFor_1 : decode cX8_missingFor 1 = .ok (.aload_n 0, 1) := by decide +kernel
theorem dX8_missingFor_2 : decode cX8_missingFor 2 = .ok (.getfield 15, 3) := by decide +kernel
theorem dX8_missingFor_5 : decode cX8_missingFor 5 = .ok (.iload_n 2, 1) := by decide +kernel
theorem dX8_missingFor_6 : decode cX8_missingFor 6 = .ok (.iaload, 1) := by decide +kernel
theorem dX8_missingFor_7 : decode cX8_missingFor 7 = .ok (.aload_n 0, 1) := by decide +kernel
theorem dX8_missingFor_8 : decode cX8_missingFor 8 = .ok (.getfield 9, 3) := by decide +kernel
theorem dX8_missingFor_11 : decode cX8_missingFor 11 = .ok (.iload_n 2, 1) := by decide +kernel
theorem dX8_missingFor_12 : decode cX8_missingFor 12 = .ok (.iaload, 1) := by decide +kernel
theorem dX8_missingFor_13 : decode cX8_missingFor 13 = .ok (.isub, 1) := by decide +kernel
theorem dX8_missingFor_14 : decode cX8_missingFor 14 = .ok (.aload_n 0, 1) := by decide +kernel
theorem dX8_missingFor_15 : decode cX8_missingFor 15 = .ok (.getfield 18, 3) := by decide +kernel
theorem dX8_missingFor_18 : decode cX8_missingFor 18 = .ok (.iload_n 1, 1) := by decide +kernel
theorem dX8_missingFor_19 : decode cX8_missingFor 19 = .ok (.iaload, 1) := by decide +kernel
theorem dX8_missingFor_20 : decode cX8_missingFor 20 = .ok (.isub, 1) := by decide +kernel
theorem dX8_missingFor_21 : decode cX8_missingFor 21 = .ok (.invokestatic 88, 3) := by decide +kernel
theorem dX8_missingFor_24 : decode cX8_missingFor 24 = .ok (.ireturn, 1) := by decide +kernel
theorem dX8_lookOn_0 : decode cX8_lookOn 0 = .ok (.aload_n 0, 1) := by decide +kernel
theorem dX8_lookOn_1 : decode cX8_lookOn 1 = .ok (.getfield 21, 3) := by decide +kernel
theorem dX8_lookOn_4 : decode cX8_lookOn 4 = .ok (.iload_n 1, 1) := by decide +kernel
theorem dX8_lookOn_5 : decode cX8_lookOn 5 = .ok (.iconst 0, 1) := by decide +kernel
theorem dX8_lookOn_6 : decode cX8_lookOn 6 = .ok (.iastore, 1) := by decide +kernel
theorem dX8_lookOn_7 : decode cX8_lookOn 7 = .ok (.aload_n 0, 1) := by decide +kernel
theorem dX8_lookOn_8 : decode cX8_lookOn 8 = .ok (.getfield 24, 3) := by decide +kernel
theorem dX8_lookOn_11 : decode cX8_lookOn 11 = .ok (.iload_n 1, 1) := by decide +kernel
theorem dX8_lookOn_12 : decode cX8_lookOn 12 = .ok (.iconst 0, 1) := by decide +kernel
theorem dX8_lookOn_13 : decode cX8_lookOn 13 = .ok (.iastore, 1) := by decide +kernel
theorem dX8_lookOn_14 : decode cX8_lookOn 14 = .ok (.aload_n 0, 1) := by decide +kernel
theorem dX8_lookOn_15 : decode cX8_lookOn 15 = .ok (.getfield 27, 3) := by decide +kernel
theorem dX8_lookOn_18 : decode cX8_lookOn 18 = .ok (.iload_n 1, 1) := by decide +kernel
theorem dX8_lookOn_19 : decode cX8_lookOn 19 = .ok (.ldc 93, 2) := by decide +kernel
theorem dX8_lookOn_21 : decode cX8_lookOn 21 = .ok (.iastore, 1) := by decide +kernel
theorem dX8_lookOn_22 : decode cX8_lookOn 22 = .ok (.iconst 1, 1) := by decide +kernel
theorem dX8_lookOn_23 : decode cX8_lookOn 23 = .ok (.aload_n 0, 1) := by decide +kernel
theorem dX8_lookOn_24 : decode cX8_lookOn 24 = .ok (.getfield 42, 3) := by decide +kernel
theorem dX8_lookOn_27 : decode cX8_lookOn 27 = .ok (.ishl, 1) := by decide +kernel
theorem dX8_lookOn_28 : decode cX8_lookOn 28 = .ok (.iconst 1, 1) := by decide +kernel
theorem dX8_lookOn_29 : decode cX8_lookOn 29 = .ok (.isub, 1) := by decide +kernel
theorem dX8_lookOn_30 : decode cX8_lookOn 30 = .ok (.istore_n 2, 1) := by decide +kernel
theorem dX8_lookOn_31 : decode cX8_lookOn 31 = .ok (.iconst 0, 1) := by decide +kernel
theorem dX8_lookOn_32 : decode cX8_lookOn 32 = .ok (.istore_n 3, 1) := by decide +kernel
theorem dX8_lookOn_33 : decode cX8_lookOn 33 = .ok (.iload_n 3, 1) := by decide +kernel
theorem dX8_lookOn_34 : decode cX8_lookOn 34 = .ok (.aload_n 0, 1) := by decide +kernel
theorem dX8_lookOn_35 : decode cX8_lookOn 35 = .ok (.getfield 42, 3) := by decide +kernel
theorem dX8_lookOn_38 : decode cX8_lookOn 38 = .ok (.if_icmp .ge 109, 3) := by decide +kernel
theorem dX8_lookOn_41 : decode cX8_lookOn 41 = .ok (.iload_n 1, 1) := by decide +kernel
theorem dX8_lookOn_42 : decode cX8_lookOn 42 = .ok (.iconst 1, 1) := by decide +kernel
theorem dX8_lookOn_43 : decode cX8_lookOn 43 = .ok (.iload_n 3, 1) := by decide +kernel
theorem dX8_lookOn_44 : decode cX8_lookOn 44 = .ok (.ishl, 1) := by decide +kernel
theorem dX8_lookOn_45 : decode cX8_lookOn 45 = .ok (.ior, 1) := by decide +kernel
theorem dX8_lookOn_46 : decode cX8_lookOn 46 = .ok (.istore 4, 2) := by decide +kernel
theorem dX8_lookOn_48 : decode cX8_lookOn 48 = .ok (.iload 4, 2) := by decide +kernel
theorem dX8_lookOn_50 : decode cX8_lookOn 50 = .ok (.iload_n 1, 1) := by decide +kernel
theorem dX8_lookOn_51 : decode cX8_lookOn 51 = .ok (.if_icmp .ne 6, 3) := by decide +kernel
theorem dX8_lookOn_54 : decode cX8_lookOn 54 = .ok (.goto 87, 3) := by decide +kernel
theorem dX8_lookOn_57 : decode cX8_lookOn 57 = .ok (.aload_n 0, 1) := by decide +kernel
theorem dX8_lookOn_58 : decode cX8_lookOn 58 = .ok (.iload_n 1, 1) := by decide +kernel
theorem dX8_lookOn_59 : decode cX8_lookOn 59 = .ok (.iload_n 3, 1) := by decide +kernel
theorem dX8_lookOn_60 : decode cX8_lookOn 60 = .ok (.invokevirtual 94, 3) := by decide +kernel
theorem dX8_lookOn_63 : decode cX8_lookOn 63 = .ok (.istore 5, 2) := by decide +kernel
theorem dX8_lookOn_65 : decode cX8_lookOn 65 = .ok (.aload_n 0, 1) := by decide +kernel
theorem dX8_lookOn_66 : decode cX8_lookOn 66 = .ok (.getfield 27, 3) := by decide +kernel
theorem dX8_lookOn_69 : decode cX8_lookOn 69 = .ok (.iload_n 1, 1) := by decide +kernel
theorem dX8_lookOn_70 : decode cX8_lookOn 70 = .ok (.aload_n 0, 1) := by decide +kernel
theorem dX8_lookOn_71 : decode cX8_lookOn 71 = .ok (.getfield 27, 3) := by decide +kernel
theorem dX8_lookOn_74 : decode cX8_lookOn 74 = .ok (.iload_n 1, 1) := by decide +kernel
theorem dX8_lookOn_75 : decode cX8_lookOn 75 = .ok (.iaload, 1) := by decide +kernel
theorem dX8_lookOn_76 : decode cX8_lookOn 76 = .ok (.iload 5, 2) := by decide +kernel
theorem dX8_lookOn_78 : decode cX8_lookOn 78 = .ok (.aload_n 0, 1) := by decide +kernel
theorem dX8_lookOn_79 : decode cX8_lookOn 79 = .ok (.getfield 27, 3) := by decide +kernel
theorem dX8_lookOn_82 : decode cX8_lookOn 82 = .ok (.iload 4, 2) := by decide +kernel
theorem dX8_lookOn_84 : decode cX8_lookOn 84 = .ok (.iaload, 1) := by decide +kernel
theorem dX8_lookOn_85 : decode cX8_lookOn 85 = .ok (.invokestatic 88, 3) := by decide +kernel
theorem dX8_lookOn_88 : decode cX8_lookOn 88 = .ok (.invokestatic 97, 3) := by decide +kernel
theorem dX8_lookOn_91 : decode cX8_lookOn 91 = .ok (.iastore, 1) := by decide +kernel
theorem dX8_lookOn_92 : decode cX8_lookOn 92 = .ok (.iload 5, 2) := by decide +kernel
theorem dX8_lookOn_94 : decode cX8_lookOn 94 = .ok (.ifCond .ne 47, 3) := by decide +kernel
theorem dX8_lookOn_97 : decode cX8_lookOn 97 = .ok (.aload_n 0, 1) := by decide +kernel
theorem dX8_lookOn_98 : decode cX8_lookOn 98 = .ok (.getfield 21, 3) := by decide +kernel
theorem dX8_lookOn_101 : decode cX8_lookOn 101 = .ok (.iload_n 1, 1) := by decide +kernel
theorem dX8_lookOn_102 : decode cX8_lookOn 102 = .ok (.dup2, 1) := by decide +kernel
theorem dX8_lookOn_103 : decode cX8_lookOn 103 = .ok (.iaload, 1) := by decide +kernel
theorem dX8_lookOn_104 : decode cX8_lookOn 104 = .ok (.aload_n 0, 1) := by decide +kernel
theorem dX8_lookOn_105 : decode cX8_lookOn 105 = .ok (.getfield 21, 3) := by decide +kernel
theorem dX8_lookOn_108 : decode cX8_lookOn 108 = .ok (.iload 4, 2) := by decide +kernel
theorem dX8_lookOn_110 : decode cX8_lookOn 110 = .ok (.iaload, 1) := by decide +kernel
theorem dX8_lookOn_111 : decode cX8_lookOn 111 = .ok (.iadd, 1) := by decide +kernel
theorem dX8_lookOn_112 : decode cX8_lookOn 112 = .ok (.iastore, 1) := by decide +kernel
theorem dX8_lookOn_113 : decode cX8_lookOn 113 = .ok (.aload_n 0, 1) := by decide +kernel
theorem dX8_lookOn_114 : decode cX8_lookOn 114 = .ok (.getfield 24, 3) := by decide +kernel
theorem dX8_lookOn_117 : decode cX8_lookOn 117 = .ok (.iload_n 1, 1) := by decide +kernel
theorem dX8_lookOn_118 : decode cX8_lookOn 118 = .ok (.dup2, 1) := by decide +kernel
theorem dX8_lookOn_119 : decode cX8_lookOn 119 = .ok (.iaload, 1) := by decide +kernel
theorem dX8_lookOn_120 : decode cX8_lookOn 120 = .ok (.iload 4, 2) := by decide +kernel
theorem dX8_lookOn_122 : decode cX8_lookOn 122 = .ok (.iload_n 2, 1) := by decide +kernel
theorem dX8_lookOn_123 : decode cX8_lookOn 123 = .ok (.if_icmp .ne 9, 3) := by decide +kernel
theorem dX8_lookOn_126 : decode cX8_lookOn 126 = .ok (.iconst 1, 1) := by decide +kernel
theorem dX8_lookOn_127 : decode cX8_lookOn 127 = .ok (.iload_n 3, 1) := by decide +kernel
theorem dX8_lookOn_128 : decode cX8_lookOn 128 = .ok (.ishl, 1) := by decide +kernel
theorem dX8_lookOn_129 : decode cX8_lookOn 129 = .ok (.goto 10, 3) := by decide +kernel
theorem dX8_lookOn_132 : decode cX8_lookOn 132 = .ok (.aload_n 0, 1) := by decide +kernel
theorem dX8_lookOn_133 : decode cX8_lookOn 133 = .ok (.getfield 24, 3) := by decide +kernel
theorem dX8_lookOn_136 : decode cX8_lookOn 136 = .ok (.iload 4, 2) := by decide +kernel
theorem dX8_lookOn_138 : decode cX8_lookOn 138 = .ok (.iaload, 1) := by decide +kernel
theorem dX8_lookOn_139 : decode cX8_lookOn 139 = .ok (.ior, 1) := by decide +kernel
theorem dX8_lookOn_140 : decode cX8_lookOn 140 = .ok (.iastore, 1) := by decide +kernel
theorem dX8_lookOn_141 : decode cX8_lookOn 141 = .ok (.iinc 3 1, 3) := by decide +kernel
theorem dX8_lookOn_144 : decode cX8_lookOn 144 = .ok (.goto (-111), 3) := by decide +kernel
theorem dX8_lookOn_147 : decode cX8_lookOn 147 = .ok (.return_, 1) := by decide +kernel
theorem dX8_howManyOrders_0 : decode cX8_howManyOrders 0 = .ok (.aload_n 0, 1) := by decide +kernel
theorem dX8_howManyOrders_1 : decode cX8_howManyOrders 1 = .ok (.getfield 21, 3) := by decide +kernel
theorem dX8_howManyOrders_4 : decode cX8_howManyOrders 4 = .ok (.iconst 0, 1) := by decide +kernel
theorem dX8_howManyOrders_5 : decode cX8_howManyOrders 5 = .ok (.iaload, 1) := by decide +kernel
theorem dX8_howManyOrders_6 : decode cX8_howManyOrders 6 = .ok (.ireturn, 1) := by decide +kernel
theorem dX8_leastBrass_0 : decode cX8_leastBrass 0 = .ok (.aload_n 0, 1) := by decide +kernel
theorem dX8_leastBrass_1 : decode cX8_leastBrass 1 = .ok (.getfield 27, 3) := by decide +kernel
theorem dX8_leastBrass_4 : decode cX8_leastBrass 4 = .ok (.iconst 0, 1) := by decide +kernel
theorem dX8_leastBrass_5 : decode cX8_leastBrass 5 = .ok (.iaload, 1) := by decide +kernel
theorem dX8_leastBrass_6 : decode cX8_leastBrass 6 = .ok (.ireturn, 1) := by decide +kernel
theorem dX8_onlyLast_0 : decode cX8_onlyLast 0 = .ok (.iconst 0, 1) := by decide +kernel
theorem dX8_onlyLast_1 : decode cX8_onlyLast 1 = .ok (.istore_n 1, 1) := by decide +kernel
theorem dX8_onlyLast_2 : decode cX8_onlyLast 2 = .ok (.iload_n 1, 1) := by decide +kernel
theorem dX8_onlyLast_3 : decode cX8_onlyLast 3 = .ok (.aload_n 0, 1) := by decide +kernel
theorem dX8_onlyLast_4 : decode cX8_onlyLast 4 = .ok (.getfield 42, 3) := by decide +kernel
theorem dX8_onlyLast_7 : decode cX8_onlyLast 7 = .ok (.if_icmp .ge 23, 3) := by decide +kernel
theorem dX8_onlyLast_10 : decode cX8_onlyLast 10 = .ok (.aload_n 0, 1) := by decide +kernel
theorem dX8_onlyLast_11 : decode cX8_onlyLast 11 = .ok (.getfield 24, 3) := by decide +kernel
theorem dX8_onlyLast_14 : decode cX8_onlyLast 14 = .ok (.iconst 0, 1) := by decide +kernel
theorem dX8_onlyLast_15 : decode cX8_onlyLast 15 = .ok (.iaload, 1) := by decide +kernel
theorem dX8_onlyLast_16 : decode cX8_onlyLast 16 = .ok (.iconst 1, 1) := by decide +kernel
theorem dX8_onlyLast_17 : decode cX8_onlyLast 17 = .ok (.iload_n 1, 1) := by decide +kernel
theorem dX8_onlyLast_18 : decode cX8_onlyLast 18 = .ok (.ishl, 1) := by decide +kernel
theorem dX8_onlyLast_19 : decode cX8_onlyLast 19 = .ok (.if_icmp .ne 5, 3) := by decide +kernel
theorem dX8_onlyLast_22 : decode cX8_onlyLast 22 = .ok (.iload_n 1, 1) := by decide +kernel
theorem dX8_onlyLast_23 : decode cX8_onlyLast 23 = .ok (.ireturn, 1) := by decide +kernel
theorem dX8_onlyLast_24 : decode cX8_onlyLast 24 = .ok (.iinc 1 1, 3) := by decide +kernel
theorem dX8_onlyLast_27 : decode cX8_onlyLast 27 = .ok (.goto (-25), 3) := by decide +kernel
theorem dX8_onlyLast_30 : decode cX8_onlyLast 30 = .ok (.bipush (-6), 2) := by decide +kernel
theorem dX8_onlyLast_32 : decode cX8_onlyLast 32 = .ok (.ireturn, 1) := by decide +kernel
theorem dX8_firstOrderAt_0 : decode cX8_firstOrderAt 0 = .ok (.iload_n 1, 1) := by decide +kernel
theorem dX8_firstOrderAt_1 : decode cX8_firstOrderAt 1 = .ok (.ifCond .lt 20, 3) := by decide +kernel
theorem dX8_firstOrderAt_4 : decode cX8_firstOrderAt 4 = .ok (.iload_n 1, 1) := by decide +kernel
theorem dX8_firstOrderAt_5 : decode cX8_firstOrderAt 5 = .ok (.aload_n 0, 1) := by decide +kernel
theorem dX8_firstOrderAt_6 : decode cX8_firstOrderAt 6 = .ok (.getfield 42, 3) := by decide +kernel
theorem dX8_firstOrderAt_9 : decode cX8_firstOrderAt 9 = .ok (.if_icmp .ge 12, 3) := by decide +kernel
theorem dX8_firstOrderAt_12 : decode cX8_firstOrderAt 12 = .ok (.aload_n 0, 1) := by decide +kernel
theorem dX8_firstOrderAt_13 : decode cX8_firstOrderAt 13 = .ok (.getfield 21, 3) := by decide +kernel
theorem dX8_firstOrderAt_16 : decode cX8_firstOrderAt 16 = .ok (.iconst 0, 1) := by decide +kernel
theorem dX8_firstOrderAt_17 : decode cX8_firstOrderAt 17 = .ok (.iaload, 1) := by decide +kernel
theorem dX8_firstOrderAt_18 : decode cX8_firstOrderAt 18 = .ok (.ifCond .ne 6, 3) := by decide +kernel
theorem dX8_firstOrderAt_21 : decode cX8_firstOrderAt 21 = .ok (.bipush (-6), 2) := by decide +kernel
theorem dX8_firstOrderAt_23 : decode cX8_firstOrderAt 23 = .ok (.ireturn, 1) := by decide +kernel
theorem dX8_firstOrderAt_24 : decode cX8_firstOrderAt 24 = .ok (.iconst 0, 1) := by decide +kernel
theorem dX8_firstOrderAt_25 : decode cX8_firstOrderAt 25 = .ok (.istore_n 2, 1) := by decide +kernel
theorem dX8_firstOrderAt_26 : decode cX8_firstOrderAt 26 = .ok (.bipush (-6), 2) := by decide +kernel
theorem dX8_firstOrderAt_28 : decode cX8_firstOrderAt 28 = .ok (.istore_n 3, 1) := by decide +kernel
theorem dX8_firstOrderAt_29 : decode cX8_firstOrderAt 29 = .ok (.iconst 0, 1) := by decide +kernel
theorem dX8_firstOrderAt_30 : decode cX8_firstOrderAt 30 = .ok (.istore 4, 2) := by decide +kernel
theorem dX8_firstOrderAt_32 : decode cX8_firstOrderAt 32 = .ok (.iload 4, 2) := by decide +kernel
theorem dX8_firstOrderAt_34 : decode cX8_firstOrderAt 34 = .ok (.iload_n 1, 1) := by decide +kernel
theorem dX8_firstOrderAt_35 : decode cX8_firstOrderAt 35 = .ok (.if_icmp .gt 30, 3) := by decide +kernel
theorem dX8_firstOrderAt_38 : decode cX8_firstOrderAt 38 = .ok (.aload_n 0, 1) := by decide +kernel
theorem dX8_firstOrderAt_39 : decode cX8_firstOrderAt 39 = .ok (.iload_n 2, 1) := by decide +kernel
theorem dX8_firstOrderAt_40 : decode cX8_firstOrderAt 40 = .ok (.invokevirtual 100, 3) := by decide +kernel
theorem dX8_firstOrderAt_43 : decode cX8_firstOrderAt 43 = .ok (.istore_n 3, 1) := by decide +kernel
theorem dX8_firstOrderAt_44 : decode cX8_firstOrderAt 44 = .ok (.iload_n 3, 1) := by decide +kernel
theorem dX8_firstOrderAt_45 : decode cX8_firstOrderAt 45 = .ok (.bipush (-6), 2) := by decide +kernel
theorem dX8_firstOrderAt_47 : decode cX8_firstOrderAt 47 = .ok (.if_icmp .ne 6, 3) := by decide +kernel
theorem dX8_firstOrderAt_50 : decode cX8_firstOrderAt 50 = .ok (.bipush (-6), 2) := by decide +kernel
theorem dX8_firstOrderAt_52 : decode cX8_firstOrderAt 52 = .ok (.ireturn, 1) := by decide +kernel
theorem dX8_firstOrderAt_53 : decode cX8_firstOrderAt 53 = .ok (.iload_n 2, 1) := by decide +kernel
theorem dX8_firstOrderAt_54 : decode cX8_firstOrderAt 54 = .ok (.iconst 1, 1) := by decide +kernel
theorem dX8_firstOrderAt_55 : decode cX8_firstOrderAt 55 = .ok (.iload_n 3, 1) := by decide +kernel
theorem dX8_firstOrderAt_56 : decode cX8_firstOrderAt 56 = .ok (.ishl, 1) := by decide +kernel
theorem dX8_firstOrderAt_57 : decode cX8_firstOrderAt 57 = .ok (.ior, 1) := by decide +kernel
theorem dX8_firstOrderAt_58 : decode cX8_firstOrderAt 58 = .ok (.istore_n 2, 1) := by decide +kernel
theorem dX8_firstOrderAt_59 : decode cX8_firstOrderAt 59 = .ok (.iinc 4 1, 3) := by decide +kernel
theorem dX8_firstOrderAt_62 : decode cX8_firstOrderAt 62 = .ok (.goto (-30), 3) := by decide +kernel
theorem dX8_firstOrderAt_65 : decode cX8_firstOrderAt 65 = .ok (.iload_n 3, 1) := by decide +kernel
theorem dX8_firstOrderAt_66 : decode cX8_firstOrderAt 66 = .ok (.ireturn, 1) := by decide +kernel
theorem dX8_leastNext_0 : decode cX8_leastNext 0 = .ok (.iconst 0, 1) := by decide +kernel
theorem dX8_leastNext_1 : decode cX8_leastNext 1 = .ok (.istore_n 2, 1) := by decide +kernel
theorem dX8_leastNext_2 : decode cX8_leastNext 2 = .ok (.iload_n 2, 1) := by decide +kernel
theorem dX8_leastNext_3 : decode cX8_leastNext 3 = .ok (.aload_n 0, 1) := by decide +kernel
theorem dX8_leastNext_4 : decode cX8_leastNext 4 = .ok (.getfield 42, 3) := by decide +kernel
theorem dX8_leastNext_7 : decode cX8_leastNext 7 = .ok (.if_icmp .ge 40, 3) := by decide +kernel
theorem dX8_leastNext_10 : decode cX8_leastNext 10 = .ok (.iload_n 1, 1) := by decide +kernel
theorem dX8_leastNext_11 : decode cX8_leastNext 11 = .ok (.iconst 1, 1) := by decide +kernel
theorem dX8_leastNext_12 : decode cX8_leastNext 12 = .ok (.iload_n 2, 1) := by decide +kernel
theorem dX8_leastNext_13 : decode cX8_leastNext 13 = .ok (.ishl, 1) := by decide +kernel
theorem dX8_leastNext_14 : decode cX8_leastNext 14 = .ok (.ior, 1) := by decide +kernel
theorem dX8_leastNext_15 : decode cX8_leastNext 15 = .ok (.istore_n 3, 1) := by decide +kernel
theorem dX8_leastNext_16 : decode cX8_leastNext 16 = .ok (.iload_n 3, 1) := by decide +kernel
theorem dX8_leastNext_17 : decode cX8_leastNext 17 = .ok (.iload_n 1, 1) := by decide +kernel
theorem dX8_leastNext_18 : decode cX8_leastNext 18 = .ok (.if_icmp .eq 23, 3) := by decide +kernel
theorem dX8_leastNext_21 : decode cX8_leastNext 21 = .ok (.aload_n 0, 1) := by decide +kernel
theorem dX8_leastNext_22 : decode cX8_leastNext 22 = .ok (.iload_n 1, 1) := by decide +kernel
theorem dX8_leastNext_23 : decode cX8_leastNext 23 = .ok (.iload_n 2, 1) := by decide +kernel
theorem dX8_leastNext_24 : decode cX8_leastNext 24 = .ok (.invokevirtual 94, 3) := by decide +kernel
theorem dX8_leastNext_27 : decode cX8_leastNext 27 = .ok (.ifCond .ne 14, 3) := by decide +kernel
theorem dX8_leastNext_30 : decode cX8_leastNext 30 = .ok (.aload_n 0, 1) := by decide +kernel
theorem dX8_leastNext_31 : decode cX8_leastNext 31 = .ok (.getfield 21, 3) := by decide +kernel
theorem dX8_leastNext_34 : decode cX8_leastNext 34 = .ok (.iload_n 3, 1) := by decide +kernel
theorem dX8_leastNext_35 : decode cX8_leastNext 35 = .ok (.iaload, 1) := by decide +kernel
theorem dX8_leastNext_36 : decode cX8_leastNext 36 = .ok (.ifCond .le 5, 3) := by decide +kernel
theorem dX8_leastNext_39 : decode cX8_leastNext 39 = .ok (.iload_n 2, 1) := by decide +kernel
theorem dX8_leastNext_40 : decode cX8_leastNext 40 = .ok (.ireturn, 1) := by decide +kernel
theorem dX8_leastNext_41 : decode cX8_leastNext 41 = .ok (.iinc 2 1, 3) := by decide +kernel
theorem dX8_leastNext_44 : decode cX8_leastNext 44 = .ok (.goto (-42), 3) := by decide +kernel
theorem dX8_leastNext_47 : decode cX8_leastNext 47 = .ok (.bipush (-6), 2) := by decide +kernel
theorem dX8_leastNext_49 : decode cX8_leastNext 49 = .ok (.ireturn, 1) := by decide +kernel
theorem dX9_isRow_0 : decode cX9_isRow 0 = .ok (.iload_n 0, 1) := by decide +kernel
theorem dX9_isRow_1 : decode cX9_isRow 1 = .ok (.ifCond .lt 14, 3) := by decide +kernel
theorem dX9_isRow_4 : decode cX9_isRow 4 = .ok (.iload_n 0, 1) := by decide +kernel
theorem dX9_isRow_5 : decode cX9_isRow 5 = .ok (.sipush 9999, 3) := by decide +kernel
theorem dX9_isRow_8 : decode cX9_isRow 8 = .ok (.if_icmp .gt 7, 3) := by decide +kernel
theorem dX9_isRow_11 : decode cX9_isRow 11 = .ok (.iconst 1, 1) := by decide +kernel
theorem dX9_isRow_12 : decode cX9_isRow 12 = .ok (.goto 4, 3) := by decide +kernel
theorem dX9_isRow_15 : decode cX9_isRow 15 = .ok (.iconst 0, 1) := by decide +kernel
theorem dX9_isRow_16 : decode cX9_isRow 16 = .ok (.ireturn, 1) := by decide +kernel
theorem dX9_canBeKey_0 : decode cX9_canBeKey 0 = .ok (.iload_n 0, 1) := by decide +kernel
theorem dX9_canBeKey_1 : decode cX9_canBeKey 1 = .ok (.bipush 10, 2) := by decide +kernel
theorem dX9_canBeKey_3 : decode cX9_canBeKey 3 = .ok (.irem, 1) := by decide +kernel
theorem dX9_canBeKey_4 : decode cX9_canBeKey 4 = .ok (.istore_n 2, 1) := by decide +kernel
theorem dX9_canBeKey_5 : decode cX9_canBeKey 5 = .ok (.iload_n 0, 1) := by decide +kernel
theorem dX9_canBeKey_6 : decode cX9_canBeKey 6 = .ok (.bipush 10, 2) := by decide +kernel
theorem dX9_canBeKey_8 : decode cX9_canBeKey 8 = .ok (.idiv, 1) := by decide +kernel
theorem dX9_canBeKey_9 : decode cX9_canBeKey 9 = .ok (.istore_n 3, 1) := by decide +kernel
theorem dX9_canBeKey_10 : decode cX9_canBeKey 10 = .ok (.iconst 1, 1) := by decide +kernel
theorem dX9_canBeKey_11 : decode cX9_canBeKey 11 = .ok (.istore 4, 2) := by decide +kernel
theorem dX9_canBeKey_13 : decode cX9_canBeKey 13 = .ok (.iload 4, 2) := by decide +kernel
theorem dX9_canBeKey_15 : decode cX9_canBeKey 15 = .ok (.iconst 4, 1) := by decide +kernel
theorem dX9_canBeKey_16 : decode cX9_canBeKey 16 = .ok (.if_icmp .ge 36, 3) := by decide +kernel
theorem dX9_canBeKey_19 : decode cX9_canBeKey 19 = .ok (.iload_n 3, 1) := by decide +kernel
theorem dX9_canBeKey_20 : decode cX9_canBeKey 20 = .ok (.bipush 10, 2) := by decide +kernel
theorem dX9_canBeKey_22 : decode cX9_canBeKey 22 = .ok (.irem, 1) := by decide +kernel
theorem dX9_canBeKey_23 : decode cX9_canBeKey 23 = .ok (.istore 5, 2) := by decide +kernel
theorem dX9_canBeKey_25 : decode cX9_canBeKey 25 = .ok (.iload 5, 2) := by decide +kernel
theorem dX9_canBeKey_27 : decode cX9_canBeKey 27 = .ok (.iload_n 2, 1) := by decide +kernel
theorem dX9_canBeKey_28 : decode cX9_canBeKey 28 = .ok (.isub, 1) := by decide +kernel
theorem dX9_canBeKey_29 : decode cX9_canBeKey 29 = .ok (.invokestatic 9, 3) := by decide +kernel
theorem dX9_canBeKey_32 : decode cX9_canBeKey 32 = .ok (.iload_n 1, 1) := by decide +kernel
theorem dX9_canBeKey_33 : decode cX9_canBeKey 33 = .ok (.if_icmp .le 5, 3) := by decide +kernel
theorem dX9_canBeKey_36 : decode cX9_canBeKey 36 = .ok (.iconst 0, 1) := by decide +kernel
theorem dX9_canBeKey_37 : decode cX9_canBeKey 37 = .ok (.ireturn, 1) := by decide +kernel
theorem dX9_canBeKey_38 : decode cX9_canBeKey 38 = .ok (.iload 5, 2) := by decide +kernel
theorem dX9_canBeKey_40 : decode cX9_canBeKey 40 = .ok (.istore_n 2, 1) := by decide +kernel
theorem dX9_canBeKey_41 : decode cX9_canBeKey 41 = .ok (.iload_n 3, 1) := by decide +kernel
theorem dX9_canBeKey_42 : decode cX9_canBeKey 42 = .ok (.bipush 10, 2) := by decide +kernel
theorem dX9_canBeKey_44 : decode cX9_canBeKey 44 = .ok (.idiv, 1) := by decide +kernel
theorem dX9_canBeKey_45 : decode cX9_canBeKey 45 = .ok (.istore_n 3, 1) := by decide +kernel
theorem dX9_canBeKey_46 : decode cX9_canBeKey 46 = .ok (.iinc 4 1, 3) := by decide +kernel
theorem dX9_canBeKey_49 : decode cX9_canBeKey 49 = .ok (.goto (-36), 3) := by decide +kernel
theorem dX9_canBeKey_52 : decode cX9_canBeKey 52 = .ok (.iconst 1, 1) := by decide +kernel
theorem dX9_canBeKey_53 : decode cX9_canBeKey 53 = .ok (.ireturn, 1) := by decide +kernel
theorem dX9_sumOfDepths_0 : decode cX9_sumOfDepths 0 = .ok (.iconst 0, 1) := by decide +kernel
theorem dX9_sumOfDepths_1 : decode cX9_sumOfDepths 1 = .ok (.istore_n 1, 1) := by decide +kernel
theorem dX9_sumOfDepths_2 : decode cX9_sumOfDepths 2 = .ok (.iload_n 0, 1) := by decide +kernel
theorem dX9_sumOfDepths_3 : decode cX9_sumOfDepths 3 = .ok (.istore_n 2, 1) := by decide +kernel
theorem dX9_sumOfDepths_4 : decode cX9_sumOfDepths 4 = .ok (.iconst 0, 1) := by decide +kernel
theorem dX9_sumOfDepths_5 : decode cX9_sumOfDepths 5 = .ok (.istore_n 3, 1) := by decide +kernel
theorem dX9_sumOfDepths_6 : decode cX9_sumOfDepths 6 = .ok (.iload_n 3, 1) := by decide +kernel
theorem dX9_sumOfDepths_7 : decode cX9_sumOfDepths 7 = .ok (.iconst 4, 1) := by decide +kernel
theorem dX9_sumOfDepths_8 : decode cX9_sumOfDepths 8 = .ok (.if_icmp .ge 21, 3) := by decide +kernel
theorem dX9_sumOfDepths_11 : decode cX9_sumOfDepths 11 = .ok (.iload_n 1, 1) := by decide +kernel
theorem dX9_sumOfDepths_12 : decode cX9_sumOfDepths 12 = .ok (.iload_n 2, 1) := by decide +kernel
theorem dX9_sumOfDepths_13 : decode cX9_sumOfDepths 13 = .ok (.bipush 10, 2) := by decide +kernel
theorem dX9_sumOfDepths_15 : decode cX9_sumOfDepths 15 = .ok (.irem, 1) := by decide +kernel
theorem dX9_sumOfDepths_16 : decode cX9_sumOfDepths 16 = .ok (.iadd, 1) := by decide +kernel
theorem dX9_sumOfDepths_17 : decode cX9_sumOfDepths 17 = .ok (.istore_n 1, 1) := by decide +kernel
theorem dX9_sumOfDepths_18 : decode cX9_sumOfDepths 18 = .ok (.iload_n 2, 1) := by decide +kernel
theorem dX9_sumOfDepths_19 : decode cX9_sumOfDepths 19 = .ok (.bipush 10, 2) := by decide +kernel
theorem dX9_sumOfDepths_21 : decode cX9_sumOfDepths 21 = .ok (.idiv, 1) := by decide +kernel
theorem dX9_sumOfDepths_22 : decode cX9_sumOfDepths 22 = .ok (.istore_n 2, 1) := by decide +kernel
theorem dX9_sumOfDepths_23 : decode cX9_sumOfDepths 23 = .ok (.iinc 3 1, 3) := by decide +kernel
theorem dX9_sumOfDepths_26 : decode cX9_sumOfDepths 26 = .ok (.goto (-20), 3) := by decide +kernel
theorem dX9_sumOfDepths_29 : decode cX9_sumOfDepths 29 = .ok (.iload_n 1, 1) := by decide +kernel
theorem dX9_sumOfDepths_30 : decode cX9_sumOfDepths 30 = .ok (.ireturn, 1) := by decide +kernel
theorem dX9_lockWeight_0 : decode cX9_lockWeight 0 = .ok (.iconst 4, 1) := by decide +kernel
theorem dX9_lockWeight_1 : decode cX9_lockWeight 1 = .ok (.iload_n 0, 1) := by decide +kernel
theorem dX9_lockWeight_2 : decode cX9_lockWeight 2 = .ok (.invokestatic 15, 3) := by decide +kernel
theorem dX9_lockWeight_5 : decode cX9_lockWeight 5 = .ok (.iadd, 1) := by decide +kernel
theorem dX9_lockWeight_6 : decode cX9_lockWeight 6 = .ok (.istore_n 2, 1) := by decide +kernel
theorem dX9_lockWeight_7 : decode cX9_lockWeight 7 = .ok (.iload_n 0, 1) := by decide +kernel
theorem dX9_lockWeight_8 : decode cX9_lockWeight 8 = .ok (.istore_n 3, 1) := by decide +kernel
theorem dX9_lockWeight_9 : decode cX9_lockWeight 9 = .ok (.iload_n 1, 1) := by decide +kernel
theorem dX9_lockWeight_10 : decode cX9_lockWeight 10 = .ok (.istore 4, 2) := by decide +kernel
theorem dX9_lockWeight_12 : decode cX9_lockWeight 12 = .ok (.iconst 0, 1) := by decide +kernel
theorem dX9_lockWeight_13 : decode cX9_lockWeight 13 = .ok (.istore 5, 2) := by decide +kernel
theorem dX9_lockWeight_15 : decode cX9_lockWeight 15 = .ok (.iload 5, 2) := by decide +kernel
theorem dX9_lockWeight_17 : decode cX9_lockWeight 17 = .ok (.iconst 4, 1) := by decide +kernel
theorem dX9_lockWeight_18 : decode cX9_lockWeight 18 = .ok (.if_icmp .ge 36, 3) := by decide +kernel
theorem dX9_lockWeight_21 : decode cX9_lockWeight 21 = .ok (.iload_n 3, 1) := by decide +kernel
theorem dX9_lockWeight_22 : decode cX9_lockWeight 22 = .ok (.bipush 10, 2) := by decide +kernel
theorem dX9_lockWeight_24 : decode cX9_lockWeight 24 = .ok (.irem, 1) := by decide +kernel
theorem dX9_lockWeight_25 : decode cX9_lockWeight 25 = .ok (.iload 4, 2) := by decide +kernel
theorem dX9_lockWeight_27 : decode cX9_lockWeight 27 = .ok (.bipush 10, 2) := by decide +kernel
theorem dX9_lockWeight_29 : decode cX9_lockWeight 29 = .ok (.irem, 1) := by decide +kernel
theorem dX9_lockWeight_30 : decode cX9_lockWeight 30 = .ok (.if_icmp .eq 6, 3) := by decide +kernel
theorem dX9_lockWeight_33 : decode cX9_lockWeight 33 = .ok (.iinc 2 1, 3) := by decide +kernel
theorem dX9_lockWeight_36 : decode cX9_lockWeight 36 = .ok (.iload_n 3, 1) := by decide +kernel
theorem dX9_lockWeight_37 : decode cX9_lockWeight 37 = .ok (.bipush 10, 2) := by decide +kernel
theorem dX9_lockWeight_39 : decode cX9_lockWeight 39 = .ok (.idiv, 1) := by decide +kernel
theorem dX9_lockWeight_40 : decode cX9_lockWeight 40 = .ok (.istore_n 3, 1) := by decide +kernel
theorem dX9_lockWeight_41 : decode cX9_lockWeight 41 = .ok (.iload 4, 2) := by decide +kernel
theorem dX9_lockWeight_43 : decode cX9_lockWeight 43 = .ok (.bipush 10, 2) := by decide +kernel
theorem dX9_lockWeight_45 : decode cX9_lockWeight 45 = .ok (.idiv, 1) := by decide +kernel
theorem dX9_lockWeight_46 : decode cX9_lockWeight 46 = .ok (.istore 4, 2) := by decide +kernel
theorem dX9_lockWeight_48 : decode cX9_lockWeight 48 = .ok (.iinc 5 1, 3) := by decide +kernel
theorem dX9_lockWeight_51 : decode cX9_lockWeight 51 = .ok (.goto (-36), 3) := by decide +kernel
theorem dX9_lockWeight_54 : decode cX9_lockWeight 54 = .ok (.iload_n 2, 1) := by decide +kernel
theorem dX9_lockWeight_55 : decode cX9_lockWeight 55 = .ok (.ireturn, 1) := by decide +kernel
theorem dX9_lossOf_0 : decode cX9_lossOf 0 = .ok (.iload_n 0, 1) := by decide +kernel
theorem dX9_lossOf_1 : decode cX9_lossOf 1 = .ok (.iload_n 1, 1) := by decide +kernel
theorem dX9_lossOf_2 : decode cX9_lossOf 2 = .ok (.imul, 1) := by decide +kernel
theorem dX9_lossOf_3 : decode cX9_lossOf 3 = .ok (.bipush 99, 2) := by decide +kernel
theorem dX9_lossOf_5 : decode cX9_lossOf 5 = .ok (.iadd, 1) := by decide +kernel
theorem dX9_lossOf_6 : decode cX9_lossOf 6 = .ok (.bipush 100, 2) := by decide +kernel
theorem dX9_lossOf_8 : decode cX9_lossOf 8 = .ok (.idiv, 1) := by decide +kernel
theorem dX9_lossOf_9 : decode cX9_lossOf 9 = .ok (.ireturn, 1) := by decide +kernel
theorem dX10_init_0 : decode cX10_init 0 = .ok (.aload_n 0, 1) := by decide +kernel
theorem dX10_init_1 : decode cX10_init 1 = .ok (.invokespecial 3, 3) := by decide +kernel
theorem dX10_init_4 : decode cX10_init 4 = .ok (.aload_n 0, 1) := by decide +kernel
theorem dX10_init_5 : decode cX10_init 5 = .ok (.bipush 10, 2) := by decide +kernel
theorem dX10_init_7 : decode cX10_init 7 = .ok (.newarray .int, 2) := by decide +kernel
theorem dX10_init_9 : decode cX10_init 9 = .ok (.putfield 9, 3) := by decide +kernel
theorem dX10_init_12 : decode cX10_init 12 = .ok (.aload_n 0, 1) := by decide +kernel
theorem dX10_init_13 : decode cX10_init 13 = .ok (.bipush 8, 2) := by decide +kernel
theorem dX10_init_15 : decode cX10_init 15 = .ok (.newarray .int, 2) := by decide +kernel
theorem dX10_init_17 : decode cX10_init 17 = .ok (.putfield 15, 3) := by decide +kernel
theorem dX10_init_20 : decode cX10_init 20 = .ok (.aload_n 0, 1) := by decide +kernel
theorem dX10_init_21 : decode cX10_init 21 = .ok (.sipush 2048, 3) := by decide +kernel
theorem dX10_init_24 : decode cX10_init 24 = .ok (.newarray .int, 2) := by decide +kernel
theorem dX10_init_26 : decode cX10_init 26 = .ok (.putfield 18, 3) := by decide +kernel
theorem dX10_init_29 : decode cX10_init 29 = .ok (.aload_n 0, 1) := by decide +kernel
theorem dX10_init_30 : decode cX10_init 30 = .ok (.sipush 2048, 3) := by decide +kernel
theorem dX10_init_33 : decode cX10_init 33 = .ok (.newarray .boolean, 2) := by decide +kernel
theorem dX10_init_35 : decode cX10_init 35 = .ok (.putfield 21, 3) := by decide +kernel
theorem dX10_init_38 : decode cX10_init 38 = .ok (.return_, 1) := by decide +kernel
theorem dX10_work_0 : decode cX10_work 0 = .ok (.aload_n 0, 1) := by decide +kernel
theorem dX10_work_1 : decode cX10_work 1 = .ok (.aload_n 1, 1) := by decide +kernel
theorem dX10_work_2 : decode cX10_work 2 = .ok (.bipush 8, 2) := by decide +kernel
theorem dX10_work_4 : decode cX10_work 4 = .ok (.invokevirtual 25, 3) := by decide +kernel
theorem dX10_work_7 : decode cX10_work 7 = .ok (.putfield 31, 3) := by decide +kernel
theorem dX10_work_10 : decode cX10_work 10 = .ok (.iconst 0, 1) := by decide +kernel
theorem dX10_work_11 : decode cX10_work 11 = .ok (.istore_n 2, 1) := by decide +kernel
theorem dX10_work_12 : decode cX10_work 12 = .ok (.iload_n 2, 1) := by decide +kernel
theorem dX10_work_13 : decode cX10_work 13 = .ok (.aload_n 1, 1) := by decide +kernel
theorem dX10_work_14 : decode cX10_work 14 = .ok (.getfield 35, 3) := by decide +kernel
theorem dX10_work_17 : decode cX10_work 17 = .ok (.if_icmp .ge 20, 3) := by decide +kernel
theorem dX10_work_20 : decode cX10_work 20 = .ok (.aload_n 0, 1) := by decide +kernel
theorem dX10_work_21 : decode cX10_work 21 = .ok (.getfield 9, 3) := by decide +kernel
theorem dX10_work_24 : decode cX10_work 24 = .ok (.iload_n 2, 1) := by decide +kernel
theorem dX10_work_25 : decode cX10_work 25 = .ok (.aload_n 1, 1) := by decide +kernel
theorem dX10_work_26 : decode cX10_work 26 = .ok (.iload_n 2, 1) := by decide +kernel
theorem dX10_work_27 : decode cX10_work 27 = .ok (.invokevirtual 38, 3) := by decide +kernel
theorem dX10_work_30 : decode cX10_work 30 = .ok (.iastore, 1) := by decide +kernel
theorem dX10_work_31 : decode cX10_work 31 = .ok (.iinc 2 1, 3) := by decide +kernel
theorem dX10_work_34 : decode cX10_work 34 = .ok (.goto (-22), 3) := by decide +kernel
theorem dX10_work_37 : decode cX10_work 37 = .ok (.iconst 0, 1) := by decide +kernel
theorem dX10_work_38 : decode cX10_work 38 = .ok (.istore_n 2, 1) := by decide +kernel
theorem dX10_work_39 : decode cX10_work 39 = .ok (.iload_n 2, 1) := by decide +kernel
theorem dX10_work_40 : decode cX10_work 40 = .ok (.bipush 8, 2) := by decide +kernel
theorem dX10_work_42 : decode cX10_work 42 = .ok (.if_icmp .ge 20, 3) := by decide +kernel
theorem dX10_work_45 : decode cX10_work 45 = .ok (.aload_n 0, 1) := by decide +kernel
theorem dX10_work_46 : decode cX10_work 46 = .ok (.getfield 15, 3) := by decide +kernel
theorem dX10_work_49 : decode cX10_work 49 = .ok (.iload_n 2, 1) := by decide +kernel
theorem dX10_work_50 : decode cX10_work 50 = .ok (.aload_n 1, 1) := by decide +kernel
theorem dX10_work_51 : decode cX10_work 51 = .ok (.iload_n 2, 1) := by decide +kernel
theorem dX10_work_52 : decode cX10_work 52 = .ok (.invokevirtual 25, 3) := by decide +kernel
theorem dX10_work_55 : decode cX10_work 55 = .ok (.iastore, 1) := by decide +kernel
theorem dX10_work_56 : decode cX10_work 56 = .ok (.iinc 2 1, 3) := by decide +kernel
theorem dX10_work_59 : decode cX10_work 59 = .ok (.goto (-20), 3) := by decide +kernel
theorem dX10_work_62 : decode cX10_work 62 = .ok (.return_, 1) := by decide +kernel
theorem dX10_keysAfter_0 : decode cX10_keysAfter 0 = .ok (.aload_n 0, 1) := by decide +kernel
theorem dX10_keysAfter_1 : decode cX10_keysAfter 1 = .ok (.getfield 31, 3) := by decide +kernel
theorem dX10_keysAfter_4 : decode cX10_keysAfter 4 = .ok (.istore_n 2, 1) := by decide +kernel
theorem dX10_keysAfter_5 : decode cX10_keysAfter 5 = .ok (.iconst 0, 1) := by decide +kernel
theorem dX10_keysAfter_6 : decode cX10_keysAfter 6 = .ok (.istore_n 3, 1) := by decide +kernel
theorem dX10_keysAfter_7 : decode cX10_keysAfter 7 = .ok (.iload_n 3, 1) := by decide +kernel
theorem dX10_keysAfter_8 : decode cX10_keysAfter 8 = .ok (.bipush 8, 2) := by decide +kernel
theorem dX10_keysAfter_10 : decode cX10_keysAfter 10 = .ok (.if_icmp .ge 26, 3) := by decide +kernel
theorem dX10_keysAfter_13 : decode cX10_keysAfter 13 = .ok (.iload_n 1, 1) := by decide +kernel
theorem dX10_keysAfter_14 : decode cX10_keysAfter 14 = .ok (.iload_n 3, 1) := by decide +kernel
theorem dX10_keysAfter_15 : decode cX10_keysAfter 15 = .ok (.ishr, 1) := by decide +kernel
theorem dX10_keysAfter_16 : decode cX10_keysAfter 16 = .ok (.iconst 1, 1) := by decide +kernel
theorem dX10_keysAfter_17 : decode cX10_keysAfter 17 = .ok (.iand, 1) := by decide +kernel
theorem dX10_keysAfter_18 : decode cX10_keysAfter 18 = .ok (.ifCond .eq 12, 3) := by decide +kernel
theorem dX10_keysAfter_21 : decode cX10_keysAfter 21 = .ok (.iload_n 2, 1) := by decide +kernel
theorem dX10_keysAfter_22 : decode cX10_keysAfter 22 = .ok (.aload_n 0, 1) := by decide +kernel
theorem dX10_keysAfter_23 : decode cX10_keysAfter 23 = .ok (.getfield 15, 3) := by decide +kernel
theorem dX10_keysAfter_26 : decode cX10_keysAfter 26 = .ok (.iload_n 3, 1) := by decide +kernel
theorem dX10_keysAfter_27 : decode cX10_keysAfter 27 = .ok (.iaload, 1) := by decide +kernel
theorem dX10_keysAfter_28 : decode cX10_keysAfter 28 = .ok (.ior, 1) := by decide +kernel
theorem dX10_keysAfter_29 : decode cX10_keysAfter 29 = .ok (.istore_n 2, 1) := by decide +kernel
theorem dX10_keysAfter_30 : decode cX10_keysAfter 30 = .ok (.iinc 3 1, 3) := by decide +kernel
theorem dX10_keysAfter_33 : decode cX10_keysAfter 33 = .ok (.goto (-26), 3) := by decide +kernel
theorem dX10_keysAfter_36 : decode cX10_keysAfter 36 = .ok (.iload_n 2, 1) := by decide +kernel
theorem dX10_keysAfter_37 : decode cX10_keysAfter 37 = .ok (.ireturn, 1) := by decide +kernel
theorem dX10_roomsInReach_0 : decode cX10_roomsInReach 0 = .ok (.aload_n 0, 1) := by decide +kernel
theorem dX10_roomsInReach_1 : decode cX10_roomsInReach 1 = .ok (.aload_n 1, 1) := by decide +kernel
theorem dX10_roomsInReach_2 : decode cX10_roomsInReach 2 = .ok (.invokevirtual 41, 3) := by decide +kernel
theorem dX10_roomsInReach_5 : decode cX10_roomsInReach 5 = .ok (.iconst 1, 1) := by decide +kernel
theorem dX10_roomsInReach_6 : decode cX10_roomsInReach 6 = .ok (.aload_n 1, 1) := by decide +kernel
theorem dX10_roomsInReach_7 : decode cX10_roomsInReach 7 = .ok (.getfield 45, 3) := by decide +kernel
theorem dX10_roomsInReach_10 : decode cX10_roomsInReach 10 = .ok (.ishl, 1) := by decide +kernel
theorem dX10_roomsInReach_11 : decode cX10_roomsInReach 11 = .ok (.istore_n 2, 1) := by decide +kernel
theorem dX10_roomsInReach_12 : decode cX10_roomsInReach 12 = .ok (.iconst 0, 1) := by decide +kernel
theorem dX10_roomsInReach_13 : decode cX10_roomsInReach 13 = .ok (.istore_n 3, 1) := by decide +kernel
theorem dX10_roomsInReach_14 : decode cX10_roomsInReach 14 = .ok (.iload_n 3, 1) := by decide +kernel
theorem dX10_roomsInReach_15 : decode cX10_roomsInReach 15 = .ok (.bipush 8, 2) := by decide +kernel
theorem dX10_roomsInReach_17 : decode cX10_roomsInReach 17 = .ok (.if_icmp .ge 18, 3) := by decide +kernel
theorem dX10_roomsInReach_20 : decode cX10_roomsInReach 20 = .ok (.iload_n 2, 1) := by decide +kernel
theorem dX10_roomsInReach_21 : decode cX10_roomsInReach 21 = .ok (.aload_n 0, 1) := by decide +kernel
theorem dX10_roomsInReach_22 : decode cX10_roomsInReach 22 = .ok (.aload_n 1, 1) := by decide +kernel
theorem dX10_roomsInReach_23 : decode cX10_roomsInReach 23 = .ok (.iload_n 2, 1) := by decide +kernel
theorem dX10_roomsInReach_24 : decode cX10_roomsInReach 24 = .ok (.invokevirtual 48, 3) := by decide +kernel
theorem dX10_roomsInReach_27 : decode cX10_roomsInReach 27 = .ok (.ior, 1) := by decide +kernel
theorem dX10_roomsInReach_28 : decode cX10_roomsInReach 28 = .ok (.istore_n 2, 1) := by decide +kernel
theorem dX10_roomsInReach_29 : decode cX10_roomsInReach 29 = .ok (.iinc 3 1, 3) := by decide +kernel
theorem dX10_roomsInReach_32 : decode cX10_roomsInReach 32 = .ok (.goto (-18), 3) := by decide +kernel
theorem dX10_roomsInReach_35 : decode cX10_roomsInReach 35 = .ok (.iload_n 2, 1) := by decide +kernel
theorem dX10_roomsInReach_36 : decode cX10_roomsInReach 36 = .ok (.ireturn, 1) := by decide +kernel
theorem dX10_roomsBeyond_0 : decode cX10_roomsBeyond 0 = .ok (.aload_n 0, 1) := by decide +kernel
theorem dX10_roomsBeyond_1 : decode cX10_roomsBeyond 1 = .ok (.iload_n 2, 1) := by decide +kernel
theorem dX10_roomsBeyond_2 : decode cX10_roomsBeyond 2 = .ok (.invokevirtual 52, 3) := by decide +kernel
theorem dX10_roomsBeyond_5 : decode cX10_roomsBeyond 5 = .ok (.istore_n 3, 1) := by decide +kernel
theorem dX10_roomsBeyond_6 : decode cX10_roomsBeyond 6 = .ok (.iconst 0, 1) := by decide +kernel
theorem dX10_roomsBeyond_7 : decode cX10_roomsBeyond 7 = .ok (.istore 4, 2) := by decide +kernel
theorem dX10_roomsBeyond_9 : decode cX10_roomsBeyond 9 = .ok (.iconst 0, 1) := by decide +kernel
theorem dX10_roomsBeyond_10 : decode cX10_roomsBeyond 10 = .ok (.istore 5, 2) := by decide +kernel
theorem dX10_roomsBeyond_12 : decode cX10_roomsBeyond 12 = .ok (.iload 5, 2) := by decide +kernel
theorem dX10_roomsBeyond_14 : decode cX10_roomsBeyond 14 = .ok (.aload_n 1, 1) := by decide +kernel
theorem dX10_roomsBeyond_15 : decode cX10_roomsBeyond 15 = .ok (.getfield 35, 3) := by decide +kernel
theorem dX10_roomsBeyond_18 : decode cX10_roomsBeyond 18 = .ok (.if_icmp .ge 62, 3) := by decide +kernel
theorem dX10_roomsBeyond_21 : decode cX10_roomsBeyond 21 = .ok (.iconst 1, 1) := by decide +kernel
theorem dX10_roomsBeyond_22 : decode cX10_roomsBeyond 22 = .ok (.aload_n 1, 1) := by decide +kernel
theorem dX10_roomsBeyond_23 : decode cX10_roomsBeyond 23 = .ok (.getfield 55, 3) := by decide +kernel
theorem dX10_roomsBeyond_26 : decode cX10_roomsBeyond 26 = .ok (.iload 5, 2) := by decide +kernel
theorem dX10_roomsBeyond_28 : decode cX10_roomsBeyond 28 = .ok (.aaload, 1) := by decide +kernel
theorem dX10_roomsBeyond_29 : decode cX10_roomsBeyond 29 = .ok (.getfield 59, 3) := by decide +kernel
theorem dX10_roomsBeyond_32 : decode cX10_roomsBeyond 32 = .ok (.ishl, 1) := by decide +kernel
theorem dX10_roomsBeyond_33 : decode cX10_roomsBeyond 33 = .ok (.iconst 1, 1) := by decide +kernel
theorem dX10_roomsBeyond_34 : decode cX10_roomsBeyond 34 = .ok (.aload_n 1, 1) := by decide +kernel
theorem dX10_roomsBeyond_35 : decode cX10_roomsBeyond 35 = .ok (.getfield 55, 3) := by decide +kernel
theorem dX10_roomsBeyond_38 : decode cX10_roomsBeyond 38 = .ok (.iload 5, 2) := by decide +kernel
theorem dX10_roomsBeyond_40 : decode cX10_roomsBeyond 40 = .ok (.aaload, 1) := by decide +kernel
theorem dX10_roomsBeyond_41 : decode cX10_roomsBeyond 41 = .ok (.getfield 64, 3) := by decide +kernel
theorem dX10_roomsBeyond_44 : decode cX10_roomsBeyond 44 = .ok (.ishl, 1) := by decide +kernel
theorem dX10_roomsBeyond_45 : decode cX10_roomsBeyond 45 = .ok (.ior, 1) := by decide +kernel
theorem dX10_roomsBeyond_46 : decode cX10_roomsBeyond 46 = .ok (.istore 6, 2) := by decide +kernel
theorem dX10_roomsBeyond_48 : decode cX10_roomsBeyond 48 = .ok (.aload_n 0, 1) := by decide +kernel
theorem dX10_roomsBeyond_49 : decode cX10_roomsBeyond 49 = .ok (.getfield 9, 3) := by decide +kernel
theorem dX10_roomsBeyond_52 : decode cX10_roomsBeyond 52 = .ok (.iload 5, 2) := by decide +kernel
theorem dX10_roomsBeyond_54 : decode cX10_roomsBeyond 54 = .ok (.iaload, 1) := by decide +kernel
theorem dX10_roomsBeyond_55 : decode cX10_roomsBeyond 55 = .ok (.iload_n 3, 1) := by decide +kernel
theorem dX10_roomsBeyond_56 : decode cX10_roomsBeyond 56 = .ok (.iand, 1) := by decide +kernel
theorem dX10_roomsBeyond_57 : decode cX10_roomsBeyond 57 = .ok (.ifCond .eq 17, 3) := by decide +kernel
theorem dX10_roomsBeyond_60 : decode cX10_roomsBeyond 60 = .ok (.iload 6, 2) := by decide +kernel
theorem dX10_roomsBeyond_62 : decode cX10_roomsBeyond 62 = .ok (.iload_n 2, 1) := by decide +kernel
theorem dX10_roomsBeyond_63 : decode cX10_roomsBeyond 63 = .ok (.iand, 1) := by decide +kernel
theorem dX10_roomsBeyond_64 : decode cX10_roomsBeyond 64 = .ok (.ifCond .eq 10, 3) := by decide +kernel
theorem dX10_roomsBeyond_67 : decode cX10_roomsBeyond 67 = .ok (.iload 4, 2) := by decide +kernel
theorem dX10_roomsBeyond_69 : decode cX10_roomsBeyond 69 = .ok (.iload 6, 2) := by decide +kernel
theorem dX10_roomsBeyond_71 : decode cX10_roomsBeyond 71 = .ok (.ior, 1) := by decide +kernel
theorem dX10_roomsBeyond_72 : decode cX10_roomsBeyond 72 = .ok (.istore 4, 2) := by decide +kernel
theorem dX10_roomsBeyond_74 : decode cX10_roomsBeyond 74 = .ok (.iinc 5 1, 3) := by decide +kernel
theorem dX10_roomsBeyond_77 : decode cX10_roomsBeyond 77 = .ok (.goto (-65), 3) := by decide +kernel
theorem dX10_roomsBeyond_80 : decode cX10_roomsBeyond 80 = .ok (.iload 4, 2) := by decide +kernel
theorem dX10_roomsBeyond_82 : decode cX10_roomsBeyond 82 = .ok (.ireturn, 1) := by decide +kernel
theorem dX10_fewestDoors_0 : decode cX10_fewestDoors 0 = .ok (.aload_n 0, 1) := by decide +kernel
theorem dX10_fewestDoors_1 : decode cX10_fewestDoors 1 = .ok (.aload_n 1, 1) := by decide +kernel
theorem dX10_fewestDoors_2 : decode cX10_fewestDoors 2 = .ok (.invokevirtual 41, 3) := by decide +kernel
theorem dX10_fewestDoors_5 : decode cX10_fewestDoors 5 = .ok (.iconst 0, 1) := by decide +kernel
theorem dX10_fewestDoors_6 : decode cX10_fewestDoors 6 = .ok (.istore_n 3, 1) := by decide +kernel
theorem dX10_fewestDoors_7 : decode cX10_fewestDoors 7 = .ok (.iload_n 3, 1) := by decide +kernel
theorem dX10_fewestDoors_8 : decode cX10_fewestDoors 8 = .ok (.sipush 2048, 3) := by decide +kernel
theorem dX10_fewestDoors_11 : decode cX10_fewestDoors 11 = .ok (.if_icmp .ge 16, 3) := by decide +kernel
theorem dX10_fewestDoors_14 : decode cX10_fewestDoors 14 = .ok (.aload_n 0, 1) := by decide +kernel
theorem dX10_fewestDoors_15 : decode cX10_fewestDoors 15 = .ok (.getfield 21, 3) := by decide +kernel
theorem dX10_fewestDoors_18 : decode cX10_fewestDoors 18 = .ok (.iload_n 3, 1) := by decide +kernel
theorem dX10_fewestDoors_19 : decode cX10_fewestDoors 19 = .ok (.iconst 0, 1) := by decide +kernel
theorem dX10_fewestDoors_20 : decode cX10_fewestDoors 20 = .ok (.bastore, 1) := by decide +kernel
theorem dX10_fewestDoors_21 : decode cX10_fewestDoors 21 = .ok (.iinc 3 1, 3) := by decide +kernel
theorem dX10_fewestDoors_24 : decode cX10_fewestDoors 24 = .ok (.goto (-17), 3) := by decide +kernel
theorem dX10_fewestDoors_27 : decode cX10_fewestDoors 27 = .ok (.aload_n 0, 1) := by decide +kernel
theorem dX10_fewestDoors_28 : decode cX10_fewestDoors 28 = .ok (.iconst 0, 1) := by decide +kernel
theorem dX10_fewestDoors_29 : decode cX10_fewestDoors 29 = .ok (.putfield 67, 3) := by decide +kernel
theorem dX10_fewestDoors_32 : decode cX10_fewestDoors 32 = .ok (.aload_n 0, 1) := by decide +kernel
theorem dX10_fewestDoors_33 : decode cX10_fewestDoors 33 = .ok (.iconst 1, 1) := by decide +kernel
theorem dX10_fewestDoors_34 : decode cX10_fewestDoors 34 = .ok (.aload_n 1, 1) := by decide +kernel
theorem dX10_fewestDoors_35 : decode cX10_fewestDoors 35 = .ok (.getfield 45, 3) := by decide +kernel
theorem dX10_fewestDoors_38 : decode cX10_fewestDoors 38 = .ok (.ishl, 1) := by decide +kernel
theorem dX10_fewestDoors_39 : decode cX10_fewestDoors 39 = .ok (.aload_n 1, 1) := by decide +kernel
theorem dX10_fewestDoors_40 : decode cX10_fewestDoors 40 = .ok (.getfield 45, 3) := by decide +kernel
theorem dX10_fewestDoors_43 : decode cX10_fewestDoors 43 = .ok (.invokevirtual 70, 3) := by decide +kernel
theorem dX10_fewestDoors_46 : decode cX10_fewestDoors 46 = .ok (.iconst 0, 1) := by decide +kernel
theorem dX10_fewestDoors_47 : decode cX10_fewestDoors 47 = .ok (.istore_n 3, 1) := by decide +kernel
theorem dX10_fewestDoors_48 : decode cX10_fewestDoors 48 = .ok (.iconst 0, 1) := by decide +kernel
theorem dX10_fewestDoors_49 : decode cX10_fewestDoors 49 = .ok (.istore 4, 2) := by decide +kernel
theorem dX10_fewestDoors_51 : decode cX10_fewestDoors 51 = .ok (.iload 4, 2) := by decide +kernel
theorem dX10_fewestDoors_53 : decode cX10_fewestDoors 53 = .ok (.sipush 2048, 3) := by decide +kernel
theorem dX10_fewestDoors_56 : decode cX10_fewestDoors 56 = .ok (.if_icmp .ge 62, 3) := by decide +kernel
theorem dX10_fewestDoors_59 : decode cX10_fewestDoors 59 = .ok (.iload_n 3, 1) := by decide +kernel
theorem dX10_fewestDoors_60 : decode cX10_fewestDoors 60 = .ok (.aload_n 0, 1) := by decide +kernel
theorem dX10_fewestDoors_61 : decode cX10_fewestDoors 61 = .ok (.getfield 67, 3) := by decide +kernel
theorem dX10_fewestDoors_64 : decode cX10_fewestDoors 64 = .ok (.if_icmp .ge 54, 3) := by decide +kernel
theorem dX10_fewestDoors_67 : decode cX10_fewestDoors 67 = .ok (.aload_n 0, 1) := by decide +kernel
theorem dX10_fewestDoors_68 : decode cX10_fewestDoors 68 = .ok (.getfield 67, 3) := by decide +kernel
theorem dX10_fewestDoors_71 : decode cX10_fewestDoors 71 = .ok (.istore 5, 2) := by decide +kernel
theorem dX10_fewestDoors_73 : decode cX10_fewestDoors 73 = .ok (.iload_n 3, 1) := by decide +kernel
theorem dX10_fewestDoors_74 : decode cX10_fewestDoors 74 = .ok (.iload 5, 2) := by decide +kernel
theorem dX10_fewestDoors_76 : decode cX10_fewestDoors 76 = .ok (.if_icmp .ge 36, 3) := by decide +kernel
theorem dX10_fewestDoors_79 : decode cX10_fewestDoors 79 = .ok (.aload_n 0, 1) := by decide +kernel
theorem dX10_fewestDoors_80 : decode cX10_fewestDoors 80 = .ok (.getfield 18, 3) := by decide +kernel
theorem dX10_fewestDoors_83 : decode cX10_fewestDoors 83 = .ok (.iload_n 3, 1) := by decide +kernel
theorem dX10_fewestDoors_84 : decode cX10_fewestDoors 84 = .ok (.iaload, 1) := by decide +kernel
theorem dX10_fewestDoors_85 : decode cX10_fewestDoors 85 = .ok (.bipush 7, 2) := by decide +kernel
theorem dX10_fewestDoors_87 : decode cX10_fewestDoors 87 = .ok (.iand, 1) := by decide +kernel
theorem dX10_fewestDoors_88 : decode cX10_fewestDoors 88 = .ok (.iload_n 2, 1) := by decide +kernel
theorem dX10_fewestDoors_89 : decode cX10_fewestDoors 89 = .ok (.if_icmp .ne 6, 3) := by decide +kernel
theorem dX10_fewestDoors_92 : decode cX10_fewestDoors 92 = .ok (.iload 4, 2) := by decide +kernel
theorem dX10_fewestDoors_94 : decode cX10_fewestDoors 94 = .ok (.ireturn, 1) := by decide +kernel
theorem dX10_fewestDoors_95 : decode cX10_fewestDoors 95 = .ok (.aload_n 0, 1) := by decide +kernel
theorem dX10_fewestDoors_96 : decode cX10_fewestDoors 96 = .ok (.aload_n 1, 1) := by decide +kernel
theorem dX10_fewestDoors_97 : decode cX10_fewestDoors 97 = .ok (.aload_n 0, 1) := by decide +kernel
theorem dX10_fewestDoors_98 : decode cX10_fewestDoors 98 = .ok (.getfield 18, 3) := by decide +kernel
theorem dX10_fewestDoors_101 : decode cX10_fewestDoors 101 = .ok (.iload_n 3, 1) := by decide +kernel
theorem dX10_fewestDoors_102 : decode cX10_fewestDoors 102 = .ok (.iaload, 1) := by decide +kernel
theorem dX10_fewestDoors_103 : decode cX10_fewestDoors 103 = .ok (.invokevirtual 74, 3) := by decide +kernel
theorem dX10_fewestDoors_106 : decode cX10_fewestDoors 106 = .ok (.iinc 3 1, 3) := by decide +kernel
theorem dX10_fewestDoors_109 : decode cX10_fewestDoors 109 = .ok (.goto (-36), 3) := by decide +kernel
theorem dX10_fewestDoors_112 : decode cX10_fewestDoors 112 = .ok (.iinc 4 1, 3) := by decide +kernel
theorem dX10_fewestDoors_115 : decode cX10_fewestDoors 115 = .ok (.goto (-64), 3) := by decide +kernel
theorem dX10_fewestDoors_118 : decode cX10_fewestDoors 118 = .ok (.bipush (-6), 2) := by decide +kernel
theorem dX10_fewestDoors_120 : decode cX10_fewestDoors 120 = .ok (.ireturn, 1) := by decide +kernel
theorem dX10_enqueueBeyond_0 : decode cX10_enqueueBeyond 0 = .ok (.iload_n 2, 1) := by decide +kernel
theorem dX10_enqueueBeyond_1 : decode cX10_enqueueBeyond 1 = .ok (.iconst 3, 1) := by decide +kernel
theorem dX10_enqueueBeyond_2 : decode cX10_enqueueBeyond 2 = .ok (.ishr, 1) := by decide +kernel
theorem dX10_enqueueBeyond_3 : decode cX10_enqueueBeyond 3 = .ok (.istore_n 3, 1) := by decide +kernel
theorem dX10_enqueueBeyond_4 : decode cX10_enqueueBeyond 4 = .ok (.aload_n 0, 1) := by decide +kernel
theorem dX10_enqueueBeyond_5 : decode cX10_enqueueBeyond 5 = .ok (.iload_n 3, 1) := by decide +kernel
theorem dX10_enqueueBeyond_6 : decode cX10_enqueueBeyond 6 = .ok (.invokevirtual 52, 3) := by decide +kernel
theorem dX10_enqueueBeyond_9 : decode cX10_enqueueBeyond 9 = .ok (.istore 4, 2) := by decide +kernel
theorem dX10_enqueueBeyond_11 : decode cX10_enqueueBeyond 11 = .ok (.iconst 0, 1) := by decide +kernel
theorem dX10_enqueueBeyond_12 : decode cX10_enqueueBeyond 12 = .ok (.istore 5, 2) := by decide +kernel
theorem dX10_enqueueBeyond_14 : decode cX10_enqueueBeyond 14 = .ok (.iload 5, 2) := by decide +kernel
theorem dX10_enqueueBeyond_16 : decode cX10_enqueueBeyond 16 = .ok (.aload_n 1, 1) := by decide +kernel
theorem dX10_enqueueBeyond_17 : decode cX10_enqueueBeyond 17 = .ok (.getfield 35, 3) := by decide +kernel
theorem dX10_enqueueBeyond_20 : decode cX10_enqueueBeyond 20 = .ok (.if_icmp .ge 57, 3) := by decide +kernel
theorem dX10_enqueueBeyond_23 : decode cX10_enqueueBeyond 23 = .ok (.aload_n 1, 1) := by decide +kernel
theorem dX10_enqueueBeyond_24 : decode cX10_enqueueBeyond 24 = .ok (.getfield 55, 3) := by decide +kernel
theorem dX10_enqueueBeyond_27 : decode cX10_enqueueBeyond 27 = .ok (.iload 5, 2) := by decide +kernel
theorem dX10_enqueueBeyond_29 : decode cX10_enqueueBeyond 29 = .ok (.aaload, 1) := by decide +kernel
theorem dX10_enqueueBeyond_30 : decode cX10_enqueueBeyond 30 = .ok (.iload_n 2, 1) := by decide +kernel
theorem dX10_enqueueBeyond_31 : decode cX10_enqueueBeyond 31 = .ok (.bipush 7, 2) := by decide +kernel
theorem dX10_enqueueBeyond_33 : decode cX10_enqueueBeyond 33 = .ok (.iand, 1) := by decide +kernel
theorem dX10_enqueueBeyond_34 : decode cX10_enqueueBeyond 34 = .ok (.invokevirtual 78, 3) := by decide +kernel
theorem dX10_enqueueBeyond_37 : decode cX10_enqueueBeyond 37 = .ok (.istore 6, 2) := by decide +kernel
theorem dX10_enqueueBeyond_39 : decode cX10_enqueueBeyond 39 = .ok (.iload 6, 2) := by decide +kernel
theorem dX10_enqueueBeyond_41 : decode cX10_enqueueBeyond 41 = .ok (.bipush (-6), 2) := by decide +kernel
theorem dX10_enqueueBeyond_43 : decode cX10_enqueueBeyond 43 = .ok (.if_icmp .eq 28, 3) := by decide +kernel
theorem dX10_enqueueBeyond_46 : decode cX10_enqueueBeyond 46 = .ok (.aload_n 0, 1) := by decide +kernel
theorem dX10_enqueueBeyond_47 : decode cX10_enqueueBeyond 47 = .ok (.getfield 9, 3) := by decide +kernel
theorem dX10_enqueueBeyond_50 : decode cX10_enqueueBeyond 50 = .ok (.iload 5, 2) := by decide +kernel
theorem dX10_enqueueBeyond_52 : decode cX10_enqueueBeyond 52 = .ok (.iaload, 1) := by decide +kernel
theorem dX10_enqueueBeyond_53 : decode cX10_enqueueBeyond 53 = .ok (.iload 4, 2) := by decide +kernel
theorem dX10_enqueueBeyond_55 : decode cX10_enqueueBeyond 55 = .ok (.iand, 1) := by decide +kernel
theorem dX10_enqueueBeyond_56 : decode cX10_enqueueBeyond 56 = .ok (.ifCond .eq 15, 3) := by decide +kernel
theorem dX10_enqueueBeyond_59 : decode cX10_enqueueBeyond 59 = .ok (.aload_n 0, 1) := by decide +kernel
theorem dX10_enqueueBeyond_60 : decode cX10_enqueueBeyond 60 = .ok (.iload_n 3, 1) := by decide +kernel
theorem dX10_enqueueBeyond_61 : decode cX10_enqueueBeyond 61 = .ok (.iconst 1, 1) := by decide +kernel
theorem dX10_enqueueBeyond_62 : decode cX10_enqueueBeyond 62 = .ok (.iload 6, 2) := by decide +kernel
theorem dX10_enqueueBeyond_64 : decode cX10_enqueueBeyond 64 = .ok (.ishl, 1) := by decide +kernel
theorem dX10_enqueueBeyond_65 : decode cX10_enqueueBeyond 65 = .ok (.ior, 1) := by decide +kernel
theorem dX10_enqueueBeyond_66 : decode cX10_enqueueBeyond 66 = .ok (.iload 6, 2) := by decide +kernel
theorem dX10_enqueueBeyond_68 : decode cX10_enqueueBeyond 68 = .ok (.invokevirtual 70, 3) := by decide +kernel
theorem dX10_enqueueBeyond_71 : decode cX10_enqueueBeyond 71 = .ok (.iinc 5 1, 3) := by decide +kernel
theorem dX10_enqueueBeyond_74 : decode cX10_enqueueBeyond 74 = .ok (.goto (-60), 3) := by decide +kernel
theorem dX10_enqueueBeyond_77 : decode cX10_enqueueBeyond 77 = .ok (.return_, 1) := by decide +kernel
theorem dX10_enqueue_0 : decode cX10_enqueue 0 = .ok (.iload_n 1, 1) := by decide +kernel
theorem dX10_enqueue_1 : decode cX10_enqueue 1 = .ok (.iconst 3, 1) := by decide +kernel
theorem dX10_enqueue_2 : decode cX10_enqueue 2 = .ok (.ishl, 1) := by decide +kernel
theorem dX10_enqueue_3 : decode cX10_enqueue 3 = .ok (.iload_n 2, 1) := by decide +kernel
theorem dX10_enqueue_4 : decode cX10_enqueue 4 = .ok (.ior, 1) := by decide +kernel
theorem dX10_enqueue_5 : decode cX10_enqueue 5 = .ok (.istore_n 3, 1) := by decide +kernel
theorem dX10_enqueue_6 : decode cX10_enqueue 6 = .ok (.aload_n 0, 1) := by decide +kernel
theorem dX10_enqueue_7 : decode cX10_enqueue 7 = .ok (.getfield 21, 3) := by decide +kernel
theorem dX10_enqueue_10 : decode cX10_enqueue 10 = .ok (.iload_n 3, 1) := by decide +kernel
theorem dX10_enqueue_11 : decode cX10_enqueue 11 = .ok (.baload, 1) := by decide +kernel
theorem dX10_enqueue_12 : decode cX10_enqueue 12 = .ok (.ifCond .ne 13, 3) := by decide +kernel
theorem dX10_enqueue_15 : decode cX10_enqueue 15 = .ok (.aload_n 0, 1) := by decide +kernel
theorem dX10_enqueue_16 : decode cX10_enqueue 16 = .ok (.getfield 67, 3) := by decide +kernel
theorem dX10_enqueue_19 : decode cX10_enqueue 19 = .ok (.sipush 2048, 3) := by decide +kernel
theorem dX10_enqueue_22 : decode cX10_enqueue 22 = .ok (.if_icmp .lt 4, 3) := by decide +kernel
theorem dX10_enqueue_25 : decode cX10_enqueue 25 = .ok (.return_, 1) := by decide +kernel
theorem dX10_enqueue_26 : decode cX10_enqueue 26 = .ok (.aload_n 0, 1) := by decide +kernel
theorem dX10_enqueue_27 : decode cX10_enqueue 27 = .ok (.getfield 21, 3) := by decide +kernel
theorem dX10_enqueue_30 : decode cX10_enqueue 30 = .ok (.iload_n 3, 1) := by decide +kernel
theorem dX10_enqueue_31 : decode cX10_enqueue 31 = .ok (.iconst 1, 1) := by decide +kernel
theorem dX10_enqueue_32 : decode cX10_enqueue 32 = .ok (.bastore, 1) := by decide +kernel
theorem dX10_enqueue_33 : decode cX10_enqueue 33 = .ok (.aload_n 0, 1) := by decide +kernel
theorem dX10_enqueue_34 : decode cX10_enqueue 34 = .ok (.getfield 18, 3) := by decide +kernel
theorem dX10_enqueue_37 : decode cX10_enqueue 37 = .ok (.aload_n 0, 1) := by decide +kernel
theorem dX10_enqueue_38 : decode cX10_enqueue 38 = .ok (.getfield 67, 3) := by decide +kernel
theorem dX10_enqueue_41 : decode cX10_enqueue 41 = .ok (.iload_n 3, 1) := by decide +kernel
theorem dX10_enqueue_42 : decode cX10_enqueue 42 = .ok (.iastore, 1) := by decide +kernel
theorem dX10_enqueue_43 : decode cX10_enqueue 43 = .ok (.aload_n 0, 1) := by decide +kernel
theorem dX10_enqueue_44 : decode cX10_enqueue 44 = .ok (.dup, 1) := by decide +kernel
theorem dX10_enqueue_45 : decode cX10_enqueue 45 = .ok (.getfield 67, 3) := by decide +kernel
theorem dX10_enqueue_48 : decode cX10_enqueue 48 = .ok (.iconst 1, 1) := by decide +kernel
theorem dX10_enqueue_49 : decode cX10_enqueue 49 = .ok (.iadd, 1) := by decide +kernel
theorem dX10_enqueue_50 : decode cX10_enqueue 50 = .ok (.putfield 67, 3) := by decide +kernel
theorem dX10_enqueue_53 : decode cX10_enqueue 53 = .ok (.return_, 1) := by decide +kernel
theorem dX11_init_0 : decode cX11_init 0 = .ok (.aload_n 0, 1) := by decide +kernel
theorem dX11_init_1 : decode cX11_init 1 = .ok (.invokespecial 1, 3) := by decide +kernel
theorem dX11_init_4 : decode cX11_init 4 = .ok (.aload_n 0, 1) := by decide +kernel
theorem dX11_init_5 : decode cX11_init 5 = .ok (.new 7, 3) := by decide +kernel
theorem dX11_init_8 : decode cX11_init 8 = .ok (.dup, 1) := by decide +kernel
theorem dX11_init_9 : decode cX11_init 9 = .ok (.invokespecial 9, 3) := by decide +kernel
theorem dX11_init_12 : decode cX11_init 12 = .ok (.putfield 10, 3) := by decide +kernel
theorem dX11_init_15 : decode cX11_init 15 = .ok (.aload_n 0, 1) := by decide +kernel
theorem dX11_init_16 : decode cX11_init 16 = .ok (.new 7, 3) := by decide +kernel
theorem dX11_init_19 : decode cX11_init 19 = .ok (.dup, 1) := by decide +kernel
theorem dX11_init_20 : decode cX11_init 20 = .ok (.invokespecial 9, 3) := by decide +kernel
theorem dX11_init_23 : decode cX11_init 23 = .ok (.putfield 16, 3) := by decide +kernel
theorem dX11_init_26 : decode cX11_init 26 = .ok (.aload_n 0, 1) := by decide +kernel
theorem dX11_init_27 : decode cX11_init 27 = .ok (.new 19, 3) := by decide +kernel
theorem dX11_init_30 : decode cX11_init 30 = .ok (.dup, 1) := by decide +kernel
theorem dX11_init_31 : decode cX11_init 31 = .ok (.invokespecial 21, 3) := by decide +kernel
theorem dX11_init_34 : decode cX11_init 34 = .ok (.putfield 22, 3) := by decide +kernel
theorem dX11_init_37 : decode cX11_init 37 = .ok (.aload_n 0, 1) := by decide +kernel
theorem dX11_init_38 : decode cX11_init 38 = .ok (.iconst 2, 1) := by decide +kernel
theorem dX11_init_39 : decode cX11_init 39 = .ok (.anewarray 7, 3) := by decide +kernel
theorem dX11_init_42 : decode cX11_init 42 = .ok (.putfield 26, 3) := by decide +kernel
theorem dX11_init_45 : decode cX11_init 45 = .ok (.aload_n 0, 1) := by decide +kernel
theorem dX11_init_46 : decode cX11_init 46 = .ok (.iconst 2, 1) := by decide +kernel
theorem dX11_init_47 : decode cX11_init 47 = .ok (.newarray .boolean, 2) := by decide +kernel
theorem dX11_init_49 : decode cX11_init 49 = .ok (.putfield 30, 3) := by decide +kernel
theorem dX11_init_52 : decode cX11_init 52 = .ok (.aload_n 0, 1) := by decide +kernel
theorem dX11_init_53 : decode cX11_init 53 = .ok (.new 34, 3) := by decide +kernel
theorem dX11_init_56 : decode cX11_init 56 = .ok (.dup, 1) := by decide +kernel
theorem dX11_init_57 : decode cX11_init 57 = .ok (.invokespecial 36, 3) := by decide +kernel
theorem dX11_init_60 : decode cX11_init 60 = .ok (.putfield 37, 3) := by decide +kernel
theorem dX11_init_63 : decode cX11_init 63 = .ok (.aload_n 0, 1) := by decide +kernel
theorem dX11_init_64 : decode cX11_init 64 = .ok (.new 41, 3) := by decide +kernel
theorem dX11_init_67 : decode cX11_init 67 = .ok (.dup, 1) := by decide +kernel
theorem dX11_init_68 : decode cX11_init 68 = .ok (.invokespecial 43, 3) := by decide +kernel
theorem dX11_init_71 : decode cX11_init 71 = .ok (.putfield 44, 3) := by decide +kernel
theorem dX11_init_74 : decode cX11_init 74 = .ok (.aload_n 0, 1) := by decide +kernel
theorem dX11_init_75 : decode cX11_init 75 = .ok (.new 48, 3) := by decide +kernel
theorem dX11_init_78 : decode cX11_init 78 = .ok (.dup, 1) := by decide +kernel
theorem dX11_init_79 : decode cX11_init 79 = .ok (.invokespecial 50, 3) := by decide +kernel
theorem dX11_init_82 : decode cX11_init 82 = .ok (.putfield 51, 3) := by decide +kernel
theorem dX11_init_85 : decode cX11_init 85 = .ok (.aload_n 0, 1) := by decide +kernel
theorem dX11_init_86 : decode cX11_init 86 = .ok (.new 55, 3) := by decide +kernel
theorem dX11_init_89 : decode cX11_init 89 = .ok (.dup, 1) := by decide +kernel
theorem dX11_init_90 : decode cX11_init 90 = .ok (.invokespecial 57, 3) := by decide +kernel
theorem dX11_init_93 : decode cX11_init 93 = .ok (.putfield 58, 3) := by decide +kernel
theorem dX11_init_96 : decode cX11_init 96 = .ok (.iconst 0, 1) := by decide +kernel
theorem dX11_init_97 : decode cX11_init 97 = .ok (.istore_n 1, 1) := by decide +kernel
theorem dX11_init_98 : decode cX11_init 98 = .ok (.iload_n 1, 1) := by decide +kernel
theorem dX11_init_99 : decode cX11_init 99 = .ok (.iconst 2, 1) := by decide +kernel
theorem dX11_init_100 : decode cX11_init 100 = .ok (.if_icmp .ge 22, 3) := by decide +kernel
theorem dX11_init_103 : decode cX11_init 103 = .ok (.aload_n 0, 1) := by decide +kernel
theorem dX11_init_104 : decode cX11_init 104 = .ok (.getfield 26, 3) := by decide +kernel
theorem dX11_init_107 : decode cX11_init 107 = .ok (.iload_n 1, 1) := by decide +kernel
theorem dX11_init_108 : decode cX11_init 108 = .ok (.new 7, 3) := by decide +kernel
theorem dX11_init_111 : decode cX11_init 111 = .ok (.dup, 1) := by decide +kernel
theorem dX11_init_112 : decode cX11_init 112 = .ok (.invokespecial 9, 3) := by decide +kernel
theorem dX11_init_115 : decode cX11_init 115 = .ok (.aastore, 1) := by decide +kernel
theorem dX11_init_116 : decode cX11_init 116 = .ok (.iinc 1 1, 3) := by decide +kernel
theorem dX11_init_119 : decode cX11_init 119 = .ok (.goto (-21), 3) := by decide +kernel
theorem dX11_init_122 : decode cX11_init 122 = .ok (.return_, 1) := by decide +kernel
theorem dX11_set_0 : decode cX11_set 0 = .ok (.aload_n 0, 1) := by decide +kernel
theorem dX11_set_1 : decode cX11_set 1 = .ok (.getfield 16, 3) := by decide +kernel
theorem dX11_set_4 : decode cX11_set 4 = .ok (.aload_n 0, 1) := by decide +kernel
theorem dX11_set_5 : decode cX11_set 5 = .ok (.getfield 10, 3) := by decide +kernel
theorem dX11_set_8 : decode cX11_set 8 = .ok (.invokevirtual 62, 3) := by decide +kernel
theorem dX11_set_11 : decode cX11_set 11 = .ok (.aload_n 0, 1) := by decide +kernel
theorem dX11_set_12 : decode cX11_set 12 = .ok (.aload_n 0, 1) := by decide +kernel
theorem dX11_set_13 : decode cX11_set 13 = .ok (.getfield 10, 3) := by decide +kernel
theorem dX11_set_16 : decode cX11_set 16 = .ok (.iload_n 1, 1) := by decide +kernel
theorem dX11_set_17 : decode cX11_set 17 = .ok (.iload_n 2, 1) := by decide +kernel
theorem dX11_set_18 : decode cX11_set 18 = .ok (.invokevirtual 66, 3) := by decide +kernel
theorem dX11_set_21 : decode cX11_set 21 = .ok (.invokevirtual 70, 3) := by decide +kernel
theorem dX11_set_24 : decode cX11_set 24 = .ok (.ireturn, 1) := by decide +kernel
theorem dX11_brass_0 : decode cX11_brass 0 = .ok (.aload_n 0, 1) := by decide +kernel
theorem dX11_brass_1 : decode cX11_brass 1 = .ok (.getfield 16, 3) := by decide +kernel
theorem dX11_brass_4 : decode cX11_brass 4 = .ok (.aload_n 0, 1) := by decide +kernel
theorem dX11_brass_5 : decode cX11_brass 5 = .ok (.getfield 10, 3) := by decide +kernel
theorem dX11_brass_8 : decode cX11_brass 8 = .ok (.invokevirtual 62, 3) := by decide +kernel
theorem dX11_brass_11 : decode cX11_brass 11 = .ok (.aload_n 0, 1) := by decide +kernel
theorem dX11_brass_12 : decode cX11_brass 12 = .ok (.aload_n 0, 1) := by decide +kernel
theorem dX11_brass_13 : decode cX11_brass 13 = .ok (.getfield 10, 3) := by decide +kernel
theorem dX11_brass_16 : decode cX11_brass 16 = .ok (.iload_n 1, 1) := by decide +kernel
theorem dX11_brass_17 : decode cX11_brass 17 = .ok (.invokevirtual 74, 3) := by decide +kernel
theorem dX11_brass_20 : decode cX11_brass 20 = .ok (.invokevirtual 70, 3) := by decide +kernel
theorem dX11_brass_23 : decode cX11_brass 23 = .ok (.ireturn, 1) := by decide +kernel
theorem dX11_door_0 : decode cX11_door 0 = .ok (.aload_n 0, 1) := by decide +kernel
theorem dX11_door_1 : decode cX11_door 1 = .ok (.getfield 16, 3) := by decide +kernel
theorem dX11_door_4 : decode cX11_door 4 = .ok (.aload_n 0, 1) := by decide +kernel
theorem dX11_door_5 : decode cX11_door 5 = .ok (.getfield 10, 3) := by decide +kernel
theorem dX11_door_8 : decode cX11_door 8 = .ok (.invokevirtual 62, 3) := by decide +kernel
theorem dX11_door_11 : decode cX11_door 11 = .ok (.aload_n 0, 1) := by decide +kernel
theorem dX11_door_12 : decode cX11_door 12 = .ok (.aload_n 0, 1) := by decide +kernel
theorem dX11_door_13 : decode cX11_door 13 = .ok (.getfield 10, 3) := by decide +kernel
theorem dX11_door_16 : decode cX11_door 16 = .ok (.iload_n 1, 1) := by decide +kernel
theorem dX11_door_17 : decode cX11_door 17 = .ok (.iload_n 2, 1) := by decide +kernel
theorem dX11_door_18 : decode cX11_door 18 = .ok (.iload_n 3, 1) := by decide +kernel
theorem dX11_door_19 : decode cX11_door 19 = .ok (.iload 4, 2) := by decide +kernel
theorem dX11_door_21 : decode cX11_door 21 = .ok (.invokevirtual 77, 3) := by decide +kernel
theorem dX11_door_24 : decode cX11_door 24 = .ok (.invokevirtual 70, 3) := by decide +kernel
theorem dX11_door_27 : decode cX11_door 27 = .ok (.ireturn, 1) := by decide +kernel
theorem dX11_cut_0 : decode cX11_cut 0 = .ok (.aload_n 0, 1) := by decide +kernel
theorem dX11_cut_1 : decode cX11_cut 1 = .ok (.getfield 16, 3) := by decide +kernel
theorem dX11_cut_4 : decode cX11_cut 4 = .ok (.aload_n 0, 1) := by decide +kernel
theorem dX11_cut_5 : decode cX11_cut 5 = .ok (.getfield 10, 3) := by decide +kernel
theorem dX11_cut_8 : decode cX11_cut 8 = .ok (.invokevirtual 62, 3) := by decide +kernel
theorem dX11_cut_11 : decode cX11_cut 11 = .ok (.aload_n 0, 1) := by decide +kernel
theorem dX11_cut_12 : decode cX11_cut 12 = .ok (.aload_n 0, 1) := by decide +kernel
theorem dX11_cut_13 : decode cX11_cut 13 = .ok (.getfield 10, 3) := by decide +kernel
theorem dX11_cut_16 : decode cX11_cut 16 = .ok (.iload_n 1, 1) := by decide +kernel
theorem dX11_cut_17 : decode cX11_cut 17 = .ok (.iload_n 2, 1) := by decide +kernel
theorem dX11_cut_18 : decode cX11_cut 18 = .ok (.iload_n 3, 1) := by decide +kernel
theorem dX11_cut_19 : decode cX11_cut 19 = .ok (.invokevirtual 81, 3) := by decide +kernel
theorem dX11_cut_22 : decode cX11_cut 22 = .ok (.invokevirtual 70, 3) := by decide +kernel
theorem dX11_cut_25 : decode cX11_cut 25 = .ok (.ireturn, 1) := by decide +kernel
theorem dX11_key_0 : decode cX11_key 0 = .ok (.aload_n 0, 1) := by decide +kernel
theorem dX11_key_1 : decode cX11_key 1 = .ok (.getfield 16, 3) := by decide +kernel
theorem dX11_key_4 : decode cX11_key 4 = .ok (.aload_n 0, 1) := by decide +kernel
theorem dX11_key_5 : decode cX11_key 5 = .ok (.getfield 10, 3) := by decide +kernel
theorem dX11_key_8 : decode cX11_key 8 = .ok (.invokevirtual 62, 3) := by decide +kernel
theorem dX11_key_11 : decode cX11_key 11 = .ok (.aload_n 0, 1) := by decide +kernel
theorem dX11_key_12 : decode cX11_key 12 = .ok (.aload_n 0, 1) := by decide +kernel
theorem dX11_key_13 : decode cX11_key 13 = .ok (.getfield 10, 3) := by decide +kernel
theorem dX11_key_16 : decode cX11_key 16 = .ok (.iload_n 1, 1) := by decide +kernel
theorem dX11_key_17 : decode cX11_key 17 = .ok (.iload_n 2, 1) := by decide +kernel
theorem dX11_key_18 : decode cX11_key 18 = .ok (.invokevirtual 85, 3) := by decide +kernel
theorem dX11_key_21 : decode cX11_key 21 = .ok (.invokevirtual 70, 3) := by decide +kernel
theorem dX11_key_24 : decode cX11_key 24 = .ok (.ireturn, 1) := by decide +kernel
theorem dX11_melt_0 : decode cX11_melt 0 = .ok (.aload_n 0, 1) := by decide +kernel
theorem dX11_melt_1 : decode cX11_melt 1 = .ok (.getfield 16, 3) := by decide +kernel
theorem dX11_melt_4 : decode cX11_melt 4 = .ok (.aload_n 0, 1) := by decide +kernel
theorem dX11_melt_5 : decode cX11_melt 5 = .ok (.getfield 10, 3) := by decide +kernel
theorem dX11_melt_8 : decode cX11_melt 8 = .ok (.invokevirtual 62, 3) := by decide +kernel
theorem dX11_melt_11 : decode cX11_melt 11 = .ok (.aload_n 0, 1) := by decide +kernel
theorem dX11_melt_12 : decode cX11_melt 12 = .ok (.aload_n 0, 1) := by decide +kernel
theorem dX11_melt_13 : decode cX11_melt 13 = .ok (.getfield 10, 3) := by decide +kernel
theorem dX11_melt_16 : decode cX11_melt 16 = .ok (.iload_n 1, 1) := by decide +kernel
theorem dX11_melt_17 : decode cX11_melt 17 = .ok (.invokevirtual 88, 3) := by decide +kernel
theorem dX11_melt_20 : decode cX11_melt 20 = .ok (.invokevirtual 70, 3) := by decide +kernel
theorem dX11_melt_23 : decode cX11_melt 23 = .ok (.ireturn, 1) := by decide +kernel
theorem dX11_take_0 : decode cX11_take 0 = .ok (.aload_n 0, 1) := by decide +kernel
theorem dX11_take_1 : decode cX11_take 1 = .ok (.getfield 16, 3) := by decide +kernel
theorem dX11_take_4 : decode cX11_take 4 = .ok (.aload_n 0, 1) := by decide +kernel
theorem dX11_take_5 : decode cX11_take 5 = .ok (.getfield 10, 3) := by decide +kernel
theorem dX11_take_8 : decode cX11_take 8 = .ok (.invokevirtual 62, 3) := by decide +kernel
theorem dX11_take_11 : decode cX11_take 11 = .ok (.aload_n 0, 1) := by decide +kernel
theorem dX11_take_12 : decode cX11_take 12 = .ok (.aload_n 0, 1) := by decide +kernel
theorem dX11_take_13 : decode cX11_take 13 = .ok (.getfield 10, 3) := by decide +kernel
theorem dX11_take_16 : decode cX11_take 16 = .ok (.iload_n 1, 1) := by decide +kernel
theorem dX11_take_17 : decode cX11_take 17 = .ok (.invokevirtual 91, 3) := by decide +kernel
theorem dX11_take_20 : decode cX11_take 20 = .ok (.invokevirtual 70, 3) := by decide +kernel
theorem dX11_take_23 : decode cX11_take 23 = .ok (.ireturn, 1) := by decide +kernel
theorem dX11_putDown_0 : decode cX11_putDown 0 = .ok (.aload_n 0, 1) := by decide +kernel
theorem dX11_putDown_1 : decode cX11_putDown 1 = .ok (.getfield 16, 3) := by decide +kernel
theorem dX11_putDown_4 : decode cX11_putDown 4 = .ok (.aload_n 0, 1) := by decide +kernel
theorem dX11_putDown_5 : decode cX11_putDown 5 = .ok (.getfield 10, 3) := by decide +kernel
theorem dX11_putDown_8 : decode cX11_putDown 8 = .ok (.invokevirtual 62, 3) := by decide +kernel
theorem dX11_putDown_11 : decode cX11_putDown 11 = .ok (.aload_n 0, 1) := by decide +kernel
theorem dX11_putDown_12 : decode cX11_putDown 12 = .ok (.aload_n 0, 1) := by decide +kernel
theorem dX11_putDown_13 : decode cX11_putDown 13 = .ok (.getfield 10, 3) := by decide +kernel
theorem dX11_putDown_16 : decode cX11_putDown 16 = .ok (.iload_n 1, 1) := by decide +kernel
theorem dX11_putDown_17 : decode cX11_putDown 17 = .ok (.invokevirtual 94, 3) := by decide +kernel
theorem dX11_putDown_20 : decode cX11_putDown 20 = .ok (.invokevirtual 70, 3) := by decide +kernel
theorem dX11_putDown_23 : decode cX11_putDown 23 = .ok (.ireturn, 1) := by decide +kernel
theorem dX11_go_0 : decode cX11_go 0 = .ok (.aload_n 0, 1) := by decide +kernel
theorem dX11_go_1 : decode cX11_go 1 = .ok (.getfield 16, 3) := by decide +kernel
theorem dX11_go_4 : decode cX11_go 4 = .ok (.aload_n 0, 1) := by decide +kernel
theorem dX11_go_5 : decode cX11_go 5 = .ok (.getfield 10, 3) := by decide +kernel
theorem dX11_go_8 : decode cX11_go 8 = .ok (.invokevirtual 62, 3) := by decide +kernel
theorem dX11_go_11 : decode cX11_go 11 = .ok (.aload_n 0, 1) := by decide +kernel
theorem dX11_go_12 : decode cX11_go 12 = .ok (.aload_n 0, 1) := by decide +kernel
theorem dX11_go_13 : decode cX11_go 13 = .ok (.getfield 10, 3) := by decide +kernel
theorem dX11_go_16 : decode cX11_go 16 = .ok (.iload_n 1, 1) := by decide +kernel
theorem dX11_go_17 : decode cX11_go 17 = .ok (.invokevirtual 97, 3) := by decide +kernel
theorem dX11_go_20 : decode cX11_go 20 = .ok (.invokevirtual 70, 3) := by decide +kernel
theorem dX11_go_23 : decode cX11_go 23 = .ok (.ireturn, 1) := by decide +kernel
theorem dX11_plan_0 : decode cX11_plan 0 = .ok (.aload_n 0, 1) := by decide +kernel
theorem dX11_plan_1 : decode cX11_plan 1 = .ok (.getfield 16, 3) := by decide +kernel
theorem dX11_plan_4 : decode cX11_plan 4 = .ok (.aload_n 0, 1) := by decide +kernel
theorem dX11_plan_5 : decode cX11_plan 5 = .ok (.getfield 10, 3) := by decide +kernel
theorem dX11_plan_8 : decode cX11_plan 8 = .ok (.invokevirtual 62, 3) := by decide +kernel
theorem dX11_plan_11 : decode cX11_plan 11 = .ok (.aload_n 0, 1) := by decide +kernel
theorem dX11_plan_12 : decode cX11_plan 12 = .ok (.aload_n 0, 1) := by decide +kernel
theorem dX11_plan_13 : decode cX11_plan 13 = .ok (.getfield 10, 3) := by decide +kernel
theorem dX11_plan_16 : decode cX11_plan 16 = .ok (.iload_n 1, 1) := by decide +kernel
theorem dX11_plan_17 : decode cX11_plan 17 = .ok (.iload_n 2, 1) := by decide +kernel
theorem dX11_plan_18 : decode cX11_plan 18 = .ok (.iload_n 3, 1) := by decide +kernel
theorem dX11_plan_19 : decode cX11_plan 19 = .ok (.invokevirtual 100, 3) := by decide +kernel
theorem dX11_plan_22 : decode cX11_plan 22 = .ok (.invokevirtual 70, 3) := by decide +kernel
theorem dX11_plan_25 : decode cX11_plan 25 = .ok (.ireturn, 1) := by decide +kernel
theorem dX11_dropPlan_0 : decode cX11_dropPlan 0 = .ok (.aload_n 0, 1) := by decide +kernel
theorem dX11_dropPlan_1 : decode cX11_dropPlan 1 = .ok (.getfield 16, 3) := by decide +kernel
theorem dX11_dropPlan_4 : decode cX11_dropPlan 4 = .ok (.aload_n 0, 1) := by decide +kernel
theorem dX11_dropPlan_5 : decode cX11_dropPlan 5 = .ok (.getfield 10, 3) := by decide +kernel
theorem dX11_dropPlan_8 : decode cX11_dropPlan 8 = .ok (.invokevirtual 62, 3) := by decide +kernel
theorem dX11_dropPlan_11 : decode cX11_dropPlan 11 = .ok (.aload_n 0, 1) := by decide +kernel
theorem dX11_dropPlan_12 : decode cX11_dropPlan 12 = .ok (.aload_n 0, 1) := by decide +kernel
theorem dX11_dropPlan_13 : decode cX11_dropPlan 13 = .ok (.getfield 10, 3) := by decide +kernel
theorem dX11_dropPlan_16 : decode cX11_dropPlan 16 = .ok (.invokevirtual 103, 3) := by decide +kernel
theorem dX11_dropPlan_19 : decode cX11_dropPlan 19 = .ok (.invokevirtual 70, 3) := by decide +kernel
theorem dX11_dropPlan_22 : decode cX11_dropPlan 22 = .ok (.ireturn, 1) := by decide +kernel
theorem dX11_carryPlan_0 : decode cX11_carryPlan 0 = .ok (.aload_n 0, 1) := by decide +kernel
theorem dX11_carryPlan_1 : decode cX11_carryPlan 1 = .ok (.getfield 58, 3) := by decide +kernel
theorem dX11_carryPlan_4 : decode cX11_carryPlan 4 = .ok (.aload_n 0, 1) := by decide +kernel
theorem dX11_carryPlan_5 : decode cX11_carryPlan 5 = .ok (.getfield 10, 3) := by decide +kernel
theorem dX11_carryPlan_8 : decode cX11_carryPlan 8 = .ok (.invokevirtual 107, 3) := by decide +kernel
theorem dX11_carryPlan_11 : decode cX11_carryPlan 11 = .ok (.aload_n 0, 1) := by decide +kernel
theorem dX11_carryPlan_12 : decode cX11_carryPlan 12 = .ok (.getfield 10, 3) := by decide +kernel
theorem dX11_carryPlan_15 : decode cX11_carryPlan 15 = .ok (.getfield 110, 3) := by decide +kernel
theorem dX11_carryPlan_18 : decode cX11_carryPlan 18 = .ok (.getfield 114, 3) := by decide +kernel
theorem dX11_carryPlan_21 : decode cX11_carryPlan 21 = .ok (.ifCond .eq 13, 3) := by decide +kernel
theorem dX11_carryPlan_24 : decode cX11_carryPlan 24 = .ok (.aload_n 0, 1) := by decide +kernel
theorem dX11_carryPlan_25 : decode cX11_carryPlan 25 = .ok (.getfield 58, 3) := by decide +kernel
theorem dX11_carryPlan_28 : decode cX11_carryPlan 28 = .ok (.invokevirtual 120, 3) := by decide +kernel
theorem dX11_carryPlan_31 : decode cX11_carryPlan 31 = .ok (.ifCond .ne 6, 3) := by decide +kernel
theorem dX11_carryPlan_34 : decode cX11_carryPlan 34 = .ok (.bipush (-5), 2) := by decide +kernel
theorem dX11_carryPlan_36 : decode cX11_carryPlan 36 = .ok (.ireturn, 1) := by decide +kernel
theorem dX11_carryPlan_37 : decode cX11_carryPlan 37 = .ok (.aload_n 0, 1) := by decide +kernel
theorem dX11_carryPlan_38 : decode cX11_carryPlan 38 = .ok (.getfield 16, 3) := by decide +kernel
theorem dX11_carryPlan_41 : decode cX11_carryPlan 41 = .ok (.aload_n 0, 1) := by decide +kernel
theorem dX11_carryPlan_42 : decode cX11_carryPlan 42 = .ok (.getfield 10, 3) := by decide +kernel
theorem dX11_carryPlan_45 : decode cX11_carryPlan 45 = .ok (.invokevirtual 62, 3) := by decide +kernel
theorem dX11_carryPlan_48 : decode cX11_carryPlan 48 = .ok (.aload_n 0, 1) := by decide +kernel
theorem dX11_carryPlan_49 : decode cX11_carryPlan 49 = .ok (.getfield 10, 3) := by decide +kernel
theorem dX11_carryPlan_52 : decode cX11_carryPlan 52 = .ok (.getfield 110, 3) := by decide +kernel
theorem dX11_carryPlan_55 : decode cX11_carryPlan 55 = .ok (.getfield 114, 3) := by decide +kernel
theorem dX11_carryPlan_58 : decode cX11_carryPlan 58 = .ok (.istore_n 1, 1) := by decide +kernel
theorem dX11_carryPlan_59 : decode cX11_carryPlan 59 = .ok (.iconst 0, 1) := by decide +kernel
theorem dX11_carryPlan_60 : decode cX11_carryPlan 60 = .ok (.istore_n 2, 1) := by decide +kernel
theorem dX11_carryPlan_61 : decode cX11_carryPlan 61 = .ok (.iload_n 2, 1) := by decide +kernel
theorem dX11_carryPlan_62 : decode cX11_carryPlan 62 = .ok (.iload_n 1, 1) := by decide +kernel
theorem dX11_carryPlan_63 : decode cX11_carryPlan 63 = .ok (.if_icmp .ge 25, 3) := by decide +kernel
theorem dX11_carryPlan_66 : decode cX11_carryPlan 66 = .ok (.aload_n 0, 1) := by decide +kernel
theorem dX11_carryPlan_67 : decode cX11_carryPlan 67 = .ok (.getfield 10, 3) := by decide +kernel
theorem dX11_carryPlan_70 : decode cX11_carryPlan 70 = .ok (.aload_n 0, 1) := by decide +kernel
theorem dX11_carryPlan_71 : decode cX11_carryPlan 71 = .ok (.getfield 58, 3) := by decide +kernel
theorem dX11_carryPlan_74 : decode cX11_carryPlan 74 = .ok (.iload_n 2, 1) := by decide +kernel
theorem dX11_carryPlan_75 : decode cX11_carryPlan 75 = .ok (.invokevirtual 123, 3) := by decide +kernel
theorem dX11_carryPlan_78 : decode cX11_carryPlan 78 = .ok (.invokevirtual 126, 3) := by decide +kernel
theorem dX11_carryPlan_81 : decode cX11_carryPlan 81 = .ok (.pop, 1) := by decide +kernel
theorem dX11_carryPlan_82 : decode cX11_carryPlan 82 = .ok (.iinc 2 1, 3) := by decide +kernel
theorem dX11_carryPlan_85 : decode cX11_carryPlan 85 = .ok (.goto (-24), 3) := by decide +kernel
theorem dX11_carryPlan_88 : decode cX11_carryPlan 88 = .ok (.aload_n 0, 1) := by decide +kernel
theorem dX11_carryPlan_89 : decode cX11_carryPlan 89 = .ok (.getfield 10, 3) := by decide +kernel
theorem dX11_carryPlan_92 : decode cX11_carryPlan 92 = .ok (.invokevirtual 103, 3) := by decide +kernel
theorem dX11_carryPlan_95 : decode cX11_carryPlan 95 = .ok (.pop, 1) := by decide +kernel
theorem dX11_carryPlan_96 : decode cX11_carryPlan 96 = .ok (.aload_n 0, 1) := by decide +kernel
theorem dX11_carryPlan_97 : decode cX11_carryPlan 97 = .ok (.aload_n 0, 1) := by decide +kernel
theorem dX11_carryPlan_98 : decode cX11_carryPlan 98 = .ok (.getfield 10, 3) := by decide +kernel
theorem dX11_carryPlan_101 : decode cX11_carryPlan 101 = .ok (.getfield 129, 3) := by decide +kernel
theorem dX11_carryPlan_104 : decode cX11_carryPlan 104 = .ok (.invokevirtual 70, 3) := by decide +kernel
theorem dX11_carryPlan_107 : decode cX11_carryPlan 107 = .ok (.ireturn, 1) := by decide +kernel
theorem dX11_ofDoor_0 : decode cX11_ofDoor 0 = .ok (.aload_n 0, 1) := by decide +kernel
theorem dX11_ofDoor_1 : decode cX11_ofDoor 1 = .ok (.getfield 10, 3) := by decide +kernel
theorem dX11_ofDoor_4 : decode cX11_ofDoor 4 = .ok (.iload_n 1, 1) := by decide +kernel
theorem dX11_ofDoor_5 : decode cX11_ofDoor 5 = .ok (.iload_n 2, 1) := by decide +kernel
theorem dX11_ofDoor_6 : decode cX11_ofDoor 6 = .ok (.invokevirtual 132, 3) := by decide +kernel
theorem dX11_ofDoor_9 : decode cX11_ofDoor 9 = .ok (.ireturn, 1) := by decide +kernel
theorem dX11_ofKey_0 : decode cX11_ofKey 0 = .ok (.aload_n 0, 1) := by decide +kernel
theorem dX11_ofKey_1 : decode cX11_ofKey 1 = .ok (.getfield 10, 3) := by decide +kernel
theorem dX11_ofKey_4 : decode cX11_ofKey 4 = .ok (.iload_n 1, 1) := by decide +kernel
theorem dX11_ofKey_5 : decode cX11_ofKey 5 = .ok (.iload_n 2, 1) := by decide +kernel
theorem dX11_ofKey_6 : decode cX11_ofKey 6 = .ok (.invokevirtual 135, 3) := by decide +kernel
theorem dX11_ofKey_9 : decode cX11_ofKey 9 = .ok (.ireturn, 1) := by decide +kernel
theorem dX11_count_0 : decode cX11_count 0 = .ok (.iload_n 1, 1) := by decide +kernel
theorem dX11_count_1 : decode cX11_count 1 = .ok (.bipush 11, 2) := by decide +kernel
theorem dX11_count_3 : decode cX11_count 3 = .ok (.if_icmp .ne 11, 3) := by decide +kernel
theorem dX11_count_6 : decode cX11_count 6 = .ok (.aload_n 0, 1) := by decide +kernel
theorem dX11_count_7 : decode cX11_count 7 = .ok (.getfield 37, 3) := by decide +kernel
theorem dX11_count_10 : decode cX11_count 10 = .ok (.getfield 138, 3) := by decide +kernel
theorem dX11_count_13 : decode cX11_count 13 = .ok (.ireturn, 1) := by decide +kernel
theorem dX11_count_14 : decode cX11_count 14 = .ok (.iload_n 1, 1) := by decide +kernel
theorem dX11_count_15 : decode cX11_count 15 = .ok (.bipush 12, 2) := by decide +kernel
theorem dX11_count_17 : decode cX11_count 17 = .ok (.if_icmp .ne 11, 3) := by decide +kernel
theorem dX11_count_20 : decode cX11_count 20 = .ok (.aload_n 0, 1) := by decide +kernel
theorem dX11_count_21 : decode cX11_count 21 = .ok (.getfield 22, 3) := by decide +kernel
theorem dX11_count_24 : decode cX11_count 24 = .ok (.getfield 141, 3) := by decide +kernel
theorem dX11_count_27 : decode cX11_count 27 = .ok (.ireturn, 1) := by decide +kernel
theorem dX11_count_28 : decode cX11_count 28 = .ok (.aload_n 0, 1) := by decide +kernel
theorem dX11_count_29 : decode cX11_count 29 = .ok (.getfield 10, 3) := by decide +kernel
theorem dX11_count_32 : decode cX11_count 32 = .ok (.iload_n 1, 1) := by decide +kernel
theorem dX11_count_33 : decode cX11_count 33 = .ok (.invokevirtual 142, 3) := by decide +kernel
theorem dX11_count_36 : decode cX11_count 36 = .ok (.ireturn, 1) := by decide +kernel
theorem dX11_opens_0 : decode cX11_opens 0 = .ok (.aload_n 0, 1) := by decide +kernel
theorem dX11_opens_1 : decode cX11_opens 1 = .ok (.getfield 10, 3) := by decide +kernel
theorem dX11_opens_4 : decode cX11_opens 4 = .ok (.iload_n 2, 1) := by decide +kernel
theorem dX11_opens_5 : decode cX11_opens 5 = .ok (.invokevirtual 145, 3) := by decide +kernel
theorem dX11_opens_8 : decode cX11_opens 8 = .ok (.ifCond .ne 5, 3) := by decide +kernel
theorem dX11_opens_11 : decode cX11_opens 11 = .ok (.iconst (-1), 1) := by decide +kernel
theorem dX11_opens_12 : decode cX11_opens 12 = .ok (.ireturn, 1) := by decide +kernel
theorem dX11_opens_13 : decode cX11_opens 13 = .ok (.iload_n 1, 1) := by decide +kernel
theorem dX11_opens_14 : decode cX11_opens 14 = .ok (.invokestatic 149, 3) := by decide +kernel
theorem dX11_opens_17 : decode cX11_opens 17 = .ok (.ifCond .ne 6, 3) := by decide +kernel
theorem dX11_opens_20 : decode cX11_opens 20 = .ok (.bipush (-2), 2) := by decide +kernel
theorem dX11_opens_22 : decode cX11_opens 22 = .ok (.ireturn, 1) := by decide +kernel
theorem dX11_opens_23 : decode cX11_opens 23 = .ok (.aload_n 0, 1) := by decide +kernel
theorem dX11_opens_24 : decode cX11_opens 24 = .ok (.getfield 10, 3) := by decide +kernel
theorem dX11_opens_27 : decode cX11_opens 27 = .ok (.getfield 154, 3) := by decide +kernel
theorem dX11_opens_30 : decode cX11_opens 30 = .ok (.iload_n 2, 1) := by decide +kernel
theorem dX11_opens_31 : decode cX11_opens 31 = .ok (.aaload, 1) := by decide +kernel
theorem dX11_opens_32 : decode cX11_opens 32 = .ok (.iload_n 1, 1) := by decide +kernel
theorem dX11_opens_33 : decode cX11_opens 33 = .ok (.invokevirtual 158, 3) := by decide +kernel
theorem dX11_opens_36 : decode cX11_opens 36 = .ok (.ifCond .eq 7, 3) := by decide +kernel
theorem dX11_opens_39 : decode cX11_opens 39 = .ok (.iconst 1, 1) := by decide +kernel
theorem dX11_opens_40 : decode cX11_opens 40 = .ok (.goto 4, 3) := by decide +kernel
theorem dX11_opens_43 : decode cX11_opens 43 = .ok (.iconst 0, 1) := by decide +kernel
theorem dX11_opens_44 : decode cX11_opens 44 = .ok (.ireturn, 1) := by decide +kernel
theorem dX11_chanceKeys_0 : decode cX11_chanceKeys 0 = .ok (.aload_n 0, 1) := by decide +kernel
theorem dX11_chanceKeys_1 : decode cX11_chanceKeys 1 = .ok (.getfield 10, 3) := by decide +kernel
theorem dX11_chanceKeys_4 : decode cX11_chanceKeys 4 = .ok (.iload_n 1, 1) := by decide +kernel
theorem dX11_chanceKeys_5 : decode cX11_chanceKeys 5 = .ok (.invokevirtual 163, 3) := by decide +kernel
theorem dX11_chanceKeys_8 : decode cX11_chanceKeys 8 = .ok (.ifCond .ne 5, 3) := by decide +kernel
theorem dX11_chanceKeys_11 : decode cX11_chanceKeys 11 = .ok (.iconst (-1), 1) := by decide +kernel
theorem dX11_chanceKeys_12 : decode cX11_chanceKeys 12 = .ok (.ireturn, 1) := by decide +kernel
theorem dX11_chanceKeys_13 : decode cX11_chanceKeys 13 = .ok (.aload_n 0, 1) := by decide +kernel
theorem dX11_chanceKeys_14 : decode cX11_chanceKeys 14 = .ok (.getfield 44, 3) := by decide +kernel
theorem dX11_chanceKeys_17 : decode cX11_chanceKeys 17 = .ok (.aload_n 0, 1) := by decide +kernel
theorem dX11_chanceKeys_18 : decode cX11_chanceKeys 18 = .ok (.getfield 10, 3) := by decide +kernel
theorem dX11_chanceKeys_21 : decode cX11_chanceKeys 21 = .ok (.iload_n 1, 1) := by decide +kernel
theorem dX11_chanceKeys_22 : decode cX11_chanceKeys 22 = .ok (.invokevirtual 166, 3) := by decide +kernel
theorem dX11_chanceKeys_25 : decode cX11_chanceKeys 25 = .ok (.ireturn, 1) := by decide +kernel
theorem dX11_justFor_0 : decode cX11_justFor 0 = .ok (.aload_n 0, 1) := by decide +kernel
theorem dX11_justFor_1 : decode cX11_justFor 1 = .ok (.getfield 10, 3) := by decide +kernel
theorem dX11_justFor_4 : decode cX11_justFor 4 = .ok (.iload_n 1, 1) := by decide +kernel
theorem dX11_justFor_5 : decode cX11_justFor 5 = .ok (.invokevirtual 163, 3) := by decide +kernel
theorem dX11_justFor_8 : decode cX11_justFor 8 = .ok (.ifCond .ne 5, 3) := by decide +kernel
theorem dX11_justFor_11 : decode cX11_justFor 11 = .ok (.iconst (-1), 1) := by decide +kernel
theorem dX11_justFor_12 : decode cX11_justFor 12 = .ok (.ireturn, 1) := by decide +kernel
theorem dX11_justFor_13 : decode cX11_justFor 13 = .ok (.aload_n 0, 1) := by decide +kernel
theorem dX11_justFor_14 : decode cX11_justFor 14 = .ok (.getfield 44, 3) := by decide +kernel
theorem dX11_justFor_17 : decode cX11_justFor 17 = .ok (.aload_n 0, 1) := by decide +kernel
theorem dX11_justFor_18 : decode cX11_justFor 18 = .ok (.getfield 10, 3) := by decide +kernel
theorem dX11_justFor_21 : decode cX11_justFor 21 = .ok (.iload_n 1, 1) := by decide +kernel
theorem dX11_justFor_22 : decode cX11_justFor 22 = .ok (.invokevirtual 170, 3) := by decide +kernel
theorem dX11_justFor_25 : decode cX11_justFor 25 = .ok (.ireturn, 1) := by decide +kernel
theorem dX11_reach_0 : decode cX11_reach 0 = .ok (.aload_n 0, 1) := by decide +kernel
theorem dX11_reach_1 : decode cX11_reach 1 = .ok (.getfield 51, 3) := by decide +kernel
theorem dX11_reach_4 : decode cX11_reach 4 = .ok (.aload_n 0, 1) := by decide +kernel
theorem dX11_reach_5 : decode cX11_reach 5 = .ok (.getfield 10, 3) := by decide +kernel
theorem dX11_reach_8 : decode cX11_reach 8 = .ok (.invokevirtual 173, 3) := by decide +kernel
theorem dX11_reach_11 : decode cX11_reach 11 = .ok (.ireturn, 1) := by decide +kernel
theorem dX11_doorsTo_0 : decode cX11_doorsTo 0 = .ok (.iload_n 1, 1) := by decide +kernel
theorem dX11_doorsTo_1 : decode cX11_doorsTo 1 = .ok (.invokestatic 177, 3) := by decide +kernel
theorem dX11_doorsTo_4 : decode cX11_doorsTo 4 = .ok (.ifCond .ne 6, 3) := by decide +kernel
theorem dX11_doorsTo_7 : decode cX11_doorsTo 7 = .ok (.bipush (-2), 2) := by decide +kernel
theorem dX11_doorsTo_9 : decode cX11_doorsTo 9 = .ok (.ireturn, 1) := by decide +kernel
theorem dX11_doorsTo_10 : decode cX11_doorsTo 10 = .ok (.aload_n 0, 1) := by decide +kernel
theorem dX11_doorsTo_11 : decode cX11_doorsTo 11 = .ok (.getfield 51, 3) := by decide +kernel
theorem dX11_doorsTo_14 : decode cX11_doorsTo 14 = .ok (.aload_n 0, 1) := by decide +kernel
theorem dX11_doorsTo_15 : decode cX11_doorsTo 15 = .ok (.getfield 10, 3) := by decide +kernel
theorem dX11_doorsTo_18 : decode cX11_doorsTo 18 = .ok (.iload_n 1, 1) := by decide +kernel
theorem dX11_doorsTo_19 : decode cX11_doorsTo 19 = .ok (.invokevirtual 180, 3) := by decide +kernel
theorem dX11_doorsTo_22 : decode cX11_doorsTo 22 = .ok (.ireturn, 1) := by decide +kernel
theorem dX11_planOrder_0 : decode cX11_planOrder 0 = .ok (.iload_n 1, 1) := by decide +kernel
theorem dX11_planOrder_1 : decode cX11_planOrder 1 = .ok (.ifCond .lt 9, 3) := by decide +kernel
theorem dX11_planOrder_4 : decode cX11_planOrder 4 = .ok (.iload_n 1, 1) := by decide +kernel
theorem dX11_planOrder_5 : decode cX11_planOrder 5 = .ok (.bipush 6, 2) := by decide +kernel
theorem dX11_planOrder_7 : decode cX11_planOrder 7 = .ok (.if_icmp .lt 6, 3) := by decide +kernel
theorem dX11_planOrder_10 : decode cX11_planOrder 10 = .ok (.bipush (-2), 2) := by decide +kernel
theorem dX11_planOrder_12 : decode cX11_planOrder 12 = .ok (.ireturn, 1) := by decide +kernel
theorem dX11_planOrder_13 : decode cX11_planOrder 13 = .ok (.aload_n 0, 1) := by decide +kernel
theorem dX11_planOrder_14 : decode cX11_planOrder 14 = .ok (.getfield 58, 3) := by decide +kernel
theorem dX11_planOrder_17 : decode cX11_planOrder 17 = .ok (.aload_n 0, 1) := by decide +kernel
theorem dX11_planOrder_18 : decode cX11_planOrder 18 = .ok (.getfield 10, 3) := by decide +kernel
theorem dX11_planOrder_21 : decode cX11_planOrder 21 = .ok (.invokevirtual 107, 3) := by decide +kernel
theorem dX11_planOrder_24 : decode cX11_planOrder 24 = .ok (.aload_n 0, 1) := by decide +kernel
theorem dX11_planOrder_25 : decode cX11_planOrder 25 = .ok (.getfield 58, 3) := by decide +kernel
theorem dX11_planOrder_28 : decode cX11_planOrder 28 = .ok (.iload_n 1, 1) := by decide +kernel
theorem dX11_planOrder_29 : decode cX11_planOrder 29 = .ok (.invokevirtual 123, 3) := by decide +kernel
theorem dX11_planOrder_32 : decode cX11_planOrder 32 = .ok (.ireturn, 1) := by decide +kernel
theorem dX11_planOrders_0 : decode cX11_planOrders 0 = .ok (.aload_n 0, 1) := by decide +kernel
theorem dX11_planOrders_1 : decode cX11_planOrders 1 = .ok (.getfield 58, 3) := by decide +kernel
theorem dX11_planOrders_4 : decode cX11_planOrders 4 = .ok (.aload_n 0, 1) := by decide +kernel
theorem dX11_planOrders_5 : decode cX11_planOrders 5 = .ok (.getfield 10, 3) := by decide +kernel
theorem dX11_planOrders_8 : decode cX11_planOrders 8 = .ok (.invokevirtual 107, 3) := by decide +kernel
theorem dX11_planOrders_11 : decode cX11_planOrders 11 = .ok (.aload_n 0, 1) := by decide +kernel
theorem dX11_planOrders_12 : decode cX11_planOrders 12 = .ok (.getfield 58, 3) := by decide +kernel
theorem dX11_planOrders_15 : decode cX11_planOrders 15 = .ok (.invokevirtual 120, 3) := by decide +kernel
theorem dX11_planOrders_18 : decode cX11_planOrders 18 = .ok (.ireturn, 1) := by decide +kernel
theorem dX11_mustBeLast_0 : decode cX11_mustBeLast 0 = .ok (.aload_n 0, 1) := by decide +kernel
theorem dX11_mustBeLast_1 : decode cX11_mustBeLast 1 = .ok (.getfield 58, 3) := by decide +kernel
theorem dX11_mustBeLast_4 : decode cX11_mustBeLast 4 = .ok (.aload_n 0, 1) := by decide +kernel
theorem dX11_mustBeLast_5 : decode cX11_mustBeLast 5 = .ok (.getfield 10, 3) := by decide +kernel
theorem dX11_mustBeLast_8 : decode cX11_mustBeLast 8 = .ok (.invokevirtual 107, 3) := by decide +kernel
theorem dX11_mustBeLast_11 : decode cX11_mustBeLast 11 = .ok (.aload_n 0, 1) := by decide +kernel
theorem dX11_mustBeLast_12 : decode cX11_mustBeLast 12 = .ok (.getfield 58, 3) := by decide +kernel
theorem dX11_mustBeLast_15 : decode cX11_mustBeLast 15 = .ok (.invokevirtual 183, 3) := by decide +kernel
theorem dX11_mustBeLast_18 : decode cX11_mustBeLast 18 = .ok (.ireturn, 1) := by decide +kernel
theorem dX11_brassForPlan_0 : decode cX11_brassForPlan 0 = .ok (.aload_n 0, 1) := by decide +kernel
theorem dX11_brassForPlan_1 : decode cX11_brassForPlan 1 = .ok (.getfield 58, 3) := by decide +kernel
theorem dX11_brassForPlan_4 : decode cX11_brassForPlan 4 = .ok (.aload_n 0, 1) := by decide +kernel
theorem dX11_brassForPlan_5 : decode cX11_brassForPlan 5 = .ok (.getfield 10, 3) := by decide +kernel
theorem dX11_brassForPlan_8 : decode cX11_brassForPlan 8 = .ok (.invokevirtual 107, 3) := by decide +kernel
theorem dX11_brassForPlan_11 : decode cX11_brassForPlan 11 = .ok (.aload_n 0, 1) := by decide +kernel
theorem dX11_brassForPlan_12 : decode cX11_brassForPlan 12 = .ok (.getfield 58, 3) := by decide +kernel
theorem dX11_brassForPlan_15 : decode cX11_brassForPlan 15 = .ok (.invokevirtual 186, 3) := by decide +kernel
theorem dX11_brassForPlan_18 : decode cX11_brassForPlan 18 = .ok (.ireturn, 1) := by decide +kernel
theorem dX11_put_0 : decode cX11_put 0 = .ok (.aload_n 0, 1) := by decide +kernel
theorem dX11_put_1 : decode cX11_put 1 = .ok (.getfield 37, 3) := by decide +kernel
theorem dX11_put_4 : decode cX11_put 4 = .ok (.lload_n 1, 1) := by decide +kernel
theorem dX11_put_5 : decode cX11_put 5 = .ok (.invokevirtual 189, 3) := by decide +kernel
theorem dX11_put_8 : decode cX11_put 8 = .ok (.ireturn, 1) := by decide +kernel
theorem dX11_wipe_0 : decode cX11_wipe 0 = .ok (.aload_n 0, 1) := by decide +kernel
theorem dX11_wipe_1 : decode cX11_wipe 1 = .ok (.getfield 37, 3) := by decide +kernel
theorem dX11_wipe_4 : decode cX11_wipe 4 = .ok (.invokevirtual 193, 3) := by decide +kernel
theorem dX11_wipe_7 : decode cX11_wipe 7 = .ok (.ireturn, 1) := by decide +kernel
theorem dX11_fault_0 : decode cX11_fault 0 = .ok (.aload_n 0, 1) := by decide +kernel
theorem dX11_fault_1 : decode cX11_fault 1 = .ok (.getfield 37, 3) := by decide +kernel
theorem dX11_fault_4 : decode cX11_fault 4 = .ok (.invokevirtual 196, 3) := by decide +kernel
theorem dX11_fault_7 : decode cX11_fault 7 = .ok (.ireturn, 1) := by decide +kernel
theorem dX11_carryOut_0 : decode cX11_carryOut 0 = .ok (.aload_n 0, 1) := by decide +kernel
theorem dX11_carryOut_1 : decode cX11_carryOut 1 = .ok (.getfield 37, 3) := by decide +kernel
theorem dX11_carryOut_4 : decode cX11_carryOut 4 = .ok (.invokevirtual 196, 3) := by decide +kernel
theorem dX11_carryOut_7 : decode cX11_carryOut 7 = .ok (.bipush (-6), 2) := by decide +kernel
theorem dX11_carryOut_9 : decode cX11_carryOut 9 = .ok (.if_icmp .eq 6, 3) := by decide +kernel
theorem dX11_carryOut_12 : decode cX11_carryOut 12 = .ok (.bipush (-3), 2) := by decide +kernel
theorem dX11_carryOut_14 : decode cX11_carryOut 14 = .ok (.ireturn, 1) := by decide +kernel
theorem dX11_carryOut_15 : decode cX11_carryOut 15 = .ok (.aload_n 0, 1) := by decide +kernel
theorem dX11_carryOut_16 : decode cX11_carryOut 16 = .ok (.getfield 16, 3) := by decide +kernel
theorem dX11_carryOut_19 : decode cX11_carryOut 19 = .ok (.aload_n 0, 1) := by decide +kernel
theorem dX11_carryOut_20 : decode cX11_carryOut 20 = .ok (.getfield 10, 3) := by decide +kernel
theorem dX11_carryOut_23 : decode cX11_carryOut 23 = .ok (.invokevirtual 62, 3) := by decide +kernel
theorem dX11_carryOut_26 : decode cX11_carryOut 26 = .ok (.iconst 0, 1) := by decide +kernel
theorem dX11_carryOut_27 : decode cX11_carryOut 27 = .ok (.istore_n 1, 1) := by decide +kernel
theorem dX11_carryOut_28 : decode cX11_carryOut 28 = .ok (.iload_n 1, 1) := by decide +kernel
theorem dX11_carryOut_29 : decode cX11_carryOut 29 = .ok (.aload_n 0, 1) := by decide +kernel
theorem dX11_carryOut_30 : decode cX11_carryOut 30 = .ok (.getfield 37, 3) := by decide +kernel
theorem dX11_carryOut_33 : decode cX11_carryOut 33 = .ok (.getfield 199, 3) := by decide +kernel
theorem dX11_carryOut_36 : decode cX11_carryOut 36 = .ok (.if_icmp .ge 28, 3) := by decide +kernel
theorem dX11_carryOut_39 : decode cX11_carryOut 39 = .ok (.aload_n 0, 1) := by decide +kernel
theorem dX11_carryOut_40 : decode cX11_carryOut 40 = .ok (.getfield 10, 3) := by decide +kernel
theorem dX11_carryOut_43 : decode cX11_carryOut 43 = .ok (.aload_n 0, 1) := by decide +kernel
theorem dX11_carryOut_44 : decode cX11_carryOut 44 = .ok (.getfield 37, 3) := by decide +kernel
theorem dX11_carryOut_47 : decode cX11_carryOut 47 = .ok (.getfield 202, 3) := by decide +kernel
theorem dX11_carryOut_50 : decode cX11_carryOut 50 = .ok (.iload_n 1, 1) := by decide +kernel
theorem dX11_carryOut_51 : decode cX11_carryOut 51 = .ok (.aaload, 1) := by decide +kernel
theorem dX11_carryOut_52 : decode cX11_carryOut 52 = .ok (.invokevirtual 206, 3) := by decide +kernel
theorem dX11_carryOut_55 : decode cX11_carryOut 55 = .ok (.ifCond .lt 9, 3) := by decide +kernel
theorem dX11_carryOut_58 : decode cX11_carryOut 58 = .ok (.iinc 1 1, 3) := by decide +kernel
theorem dX11_carryOut_61 : decode cX11_carryOut 61 = .ok (.goto (-33), 3) := by decide +kernel
theorem dX11_carryOut_64 : decode cX11_carryOut 64 = .ok (.aload_n 0, 1) := by decide +kernel
theorem dX11_carryOut_65 : decode cX11_carryOut 65 = .ok (.getfield 37, 3) := by decide +kernel
theorem dX11_carryOut_68 : decode cX11_carryOut 68 = .ok (.invokevirtual 193, 3) := by decide +kernel
theorem dX11_carryOut_71 : decode cX11_carryOut 71 = .ok (.pop, 1) := by decide +kernel
theorem dX11_carryOut_72 : decode cX11_carryOut 72 = .ok (.aload_n 0, 1) := by decide +kernel
theorem dX11_carryOut_73 : decode cX11_carryOut 73 = .ok (.iload_n 1, 1) := by decide +kernel
theorem dX11_carryOut_74 : decode cX11_carryOut 74 = .ok (.invokevirtual 70, 3) := by decide +kernel
theorem dX11_carryOut_77 : decode cX11_carryOut 77 = .ok (.ireturn, 1) := by decide +kernel
theorem dX11_undo_0 : decode cX11_undo 0 = .ok (.aload_n 0, 1) := by decide +kernel
theorem dX11_undo_1 : decode cX11_undo 1 = .ok (.getfield 22, 3) := by decide +kernel
theorem dX11_undo_4 : decode cX11_undo 4 = .ok (.getfield 141, 3) := by decide +kernel
theorem dX11_undo_7 : decode cX11_undo 7 = .ok (.ifCond .ne 6, 3) := by decide +kernel
theorem dX11_undo_10 : decode cX11_undo 10 = .ok (.bipush (-5), 2) := by decide +kernel
theorem dX11_undo_12 : decode cX11_undo 12 = .ok (.ireturn, 1) := by decide +kernel
theorem dX11_undo_13 : decode cX11_undo 13 = .ok (.aload_n 0, 1) := by decide +kernel
theorem dX11_undo_14 : decode cX11_undo 14 = .ok (.getfield 10, 3) := by decide +kernel
theorem dX11_undo_17 : decode cX11_undo 17 = .ok (.aload_n 0, 1) := by decide +kernel
theorem dX11_undo_18 : decode cX11_undo 18 = .ok (.getfield 22, 3) := by decide +kernel
theorem dX11_undo_21 : decode cX11_undo 21 = .ok (.invokevirtual 210, 3) := by decide +kernel
theorem dX11_undo_24 : decode cX11_undo 24 = .ok (.invokevirtual 62, 3) := by decide +kernel
theorem dX11_undo_27 : decode cX11_undo 27 = .ok (.aload_n 0, 1) := by decide +kernel
theorem dX11_undo_28 : decode cX11_undo 28 = .ok (.getfield 22, 3) := by decide +kernel
theorem dX11_undo_31 : decode cX11_undo 31 = .ok (.getfield 141, 3) := by decide +kernel
theorem dX11_undo_34 : decode cX11_undo 34 = .ok (.ireturn, 1) := by decide +kernel
theorem dX11_save_0 : decode cX11_save 0 = .ok (.iload_n 1, 1) := by decide +kernel
theorem dX11_save_1 : decode cX11_save 1 = .ok (.invokestatic 214, 3) := by decide +kernel
theorem dX11_save_4 : decode cX11_save 4 = .ok (.ifCond .ne 6, 3) := by decide +kernel
theorem dX11_save_7 : decode cX11_save 7 = .ok (.bipush (-2), 2) := by decide +kernel
theorem dX11_save_9 : decode cX11_save 9 = .ok (.ireturn, 1) := by decide +kernel
theorem dX11_save_10 : decode cX11_save 10 = .ok (.aload_n 0, 1) := by decide +kernel
theorem dX11_save_11 : decode cX11_save 11 = .ok (.getfield 26, 3) := by decide +kernel
theorem dX11_save_14 : decode cX11_save 14 = .ok (.iload_n 1, 1) := by decide +kernel
theorem dX11_save_15 : decode cX11_save 15 = .ok (.aaload, 1) := by decide +kernel
theorem dX11_save_16 : decode cX11_save 16 = .ok (.aload_n 0, 1) := by decide +kernel
theorem dX11_save_17 : decode cX11_save 17 = .ok (.getfield 10, 3) := by decide +kernel
theorem dX11_save_20 : decode cX11_save 20 = .ok (.invokevirtual 62, 3) := by decide +kernel
theorem dX11_save_23 : decode cX11_save 23 = .ok (.aload_n 0, 1) := by decide +kernel
theorem dX11_save_24 : decode cX11_save 24 = .ok (.getfield 30, 3) := by decide +kernel
theorem dX11_save_27 : decode cX11_save 27 = .ok (.iload_n 1, 1) := by decide +kernel
theorem dX11_save_28 : decode cX11_save 28 = .ok (.iconst 1, 1) := by decide +kernel
theorem dX11_save_29 : decode cX11_save 29 = .ok (.bastore, 1) := by decide +kernel
theorem dX11_save_30 : decode cX11_save 30 = .ok (.aload_n 0, 1) := by decide +kernel
theorem dX11_save_31 : decode cX11_save 31 = .ok (.getfield 10, 3) := by decide +kernel
theorem dX11_save_34 : decode cX11_save 34 = .ok (.getfield 217, 3) := by decide +kernel
theorem dX11_save_37 : decode cX11_save 37 = .ok (.ireturn, 1) := by decide +kernel
theorem dX11_restore_0 : decode cX11_restore 0 = .ok (.iload_n 1, 1) := by decide +kernel
theorem dX11_restore_1 : decode cX11_restore 1 = .ok (.invokestatic 214, 3) := by decide +kernel
theorem dX11_restore_4 : decode cX11_restore 4 = .ok (.ifCond .ne 6, 3) := by decide +kernel
theorem dX11_restore_7 : decode cX11_restore 7 = .ok (.bipush (-2), 2) := by decide +kernel
theorem dX11_restore_9 : decode cX11_restore 9 = .ok (.ireturn, 1) := by decide +kernel
theorem dX11_restore_10 : decode cX11_restore 10 = .ok (.aload_n 0, 1) := by decide +kernel
theorem dX11_restore_11 : decode cX11_restore 11 = .ok (.getfield 30, 3) := by decide +kernel
theorem dX11_restore_14 : decode cX11_restore 14 = .ok (.iload_n 1, 1) := by decide +kernel
theorem dX11_restore_15 : decode cX11_restore 15 = .ok (.baload, 1) := by decide +kernel
theorem dX11_restore_16 : decode cX11_restore 16 = .ok (.ifCond .ne 6, 3) := by decide +kernel
theorem dX11_restore_19 : decode cX11_restore 19 = .ok (.bipush (-5), 2) := by decide +kernel
theorem dX11_restore_21 : decode cX11_restore 21 = .ok (.ireturn, 1) := by decide +kernel
theorem dX11_restore_22 : decode cX11_restore 22 = .ok (.aload_n 0, 1) := by decide +kernel
theorem dX11_restore_23 : decode cX11_restore 23 = .ok (.getfield 16, 3) := by decide +kernel
theorem dX11_restore_26 : decode cX11_restore 26 = .ok (.aload_n 0, 1) := by decide +kernel
theorem dX11_restore_27 : decode cX11_restore 27 = .ok (.getfield 10, 3) := by decide +kernel
theorem dX11_restore_30 : decode cX11_restore 30 = .ok (.invokevirtual 62, 3) := by decide +kernel
theorem dX11_restore_33 : decode cX11_restore 33 = .ok (.aload_n 0, 1) := by decide +kernel
theorem dX11_restore_34 : decode cX11_restore 34 = .ok (.getfield 10, 3) := by decide +kernel
theorem dX11_restore_37 : decode cX11_restore 37 = .ok (.aload_n 0, 1) := by decide +kernel
theorem dX11_restore_38 : decode cX11_restore 38 = .ok (.getfield 26, 3) := by decide +kernel
theorem dX11_restore_41 : decode cX11_restore 41 = .ok (.iload_n 1, 1) := by decide +kernel
theorem dX11_restore_42 : decode cX11_restore 42 = .ok (.aaload, 1) := by decide +kernel
theorem dX11_restore_43 : decode cX11_restore 43 = .ok (.invokevirtual 62, 3) := by decide +kernel
theorem dX11_restore_46 : decode cX11_restore 46 = .ok (.aload_n 0, 1) := by decide +kernel
theorem dX11_restore_47 : decode cX11_restore 47 = .ok (.aload_n 0, 1) := by decide +kernel
theorem dX11_restore_48 : decode cX11_restore 48 = .ok (.getfield 10, 3) := by decide +kernel
theorem dX11_restore_51 : decode cX11_restore 51 = .ok (.getfield 217, 3) := by decide +kernel
theorem dX11_restore_54 : decode cX11_restore 54 = .ok (.invokevirtual 70, 3) := by decide +kernel
theorem dX11_restore_57 : decode cX11_restore 57 = .ok (.ireturn, 1) := by decide +kernel
theorem dX11_isSlot_0 : decode cX11_isSlot 0 = .ok (.iload_n 0, 1) := by decide +kernel
theorem dX11_isSlot_1 : decode cX11_isSlot 1 = .ok (.ifCond .lt 12, 3) := by decide +kernel
theorem dX11_isSlot_4 : decode cX11_isSlot 4 = .ok (.iload_n 0, 1) := by decide +kernel
theorem dX11_isSlot_5 : decode cX11_isSlot 5 = .ok (.iconst 2, 1) := by decide +kernel
theorem dX11_isSlot_6 : decode cX11_isSlot 6 = .ok (.if_icmp .ge 7, 3) := by decide +kernel
theorem dX11_isSlot_9 : decode cX11_isSlot 9 = .ok (.iconst 1, 1) := by decide +kernel
theorem dX11_isSlot_10 : decode cX11_isSlot 10 = .ok (.goto 4, 3) := by decide +kernel
theorem dX11_isSlot_13 : decode cX11_isSlot 13 = .ok (.iconst 0, 1) := by decide +kernel
theorem dX11_isSlot_14 : decode cX11_isSlot 14 = .ok (.ireturn, 1) := by decide +kernel
theorem dX11_recorded_0 : decode cX11_recorded 0 = .ok (.iload_n 1, 1) := by decide +kernel
theorem dX11_recorded_1 : decode cX11_recorded 1 = .ok (.ifCond .lt 18, 3) := by decide +kernel
theorem dX11_recorded_4 : decode cX11_recorded 4 = .ok (.aload_n 0, 1) := by decide +kernel
theorem dX11_recorded_5 : decode cX11_recorded 5 = .ok (.aload_n 0, 1) := by decide +kernel
theorem dX11_recorded_6 : decode cX11_recorded 6 = .ok (.getfield 22, 3) := by decide +kernel
theorem dX11_recorded_9 : decode cX11_recorded 9 = .ok (.aload_n 0, 1) := by decide +kernel
theorem dX11_recorded_10 : decode cX11_recorded 10 = .ok (.getfield 16, 3) := by decide +kernel
theorem dX11_recorded_13 : decode cX11_recorded 13 = .ok (.invokevirtual 220, 3) := by decide +kernel
theorem dX11_recorded_16 : decode cX11_recorded 16 = .ok (.putfield 16, 3) := by decide +kernel
theorem dX11_recorded_19 : decode cX11_recorded 19 = .ok (.iload_n 1, 1) := by decide +kernel
theorem dX11_recorded_20 : decode cX11_recorded 20 = .ok (.ireturn, 1) := by decide +kernel
theorem dX12_init_0 : decode cX12_init 0 = .ok (.aload_n 0, 1) := by decide +kernel
theorem dX12_init_1 : decode cX12_init 1 = .ok (.invokespecial 1, 3) := by decide +kernel
theorem dX12_init_4 : decode cX12_init 4 = .ok (.aload_n 0, 1) := by decide +kernel
theorem dX12_init_5 : decode cX12_init 5 = .ok (.sipush 170, 3) := by decide +kernel
theorem dX12_init_8 : decode cX12_init 8 = .ok (.newarray .int, 2) := by decide +kernel
theorem dX12_init_10 : decode cX12_init 10 = .ok (.putfield 7, 3) := by decide +kernel
theorem dX12_init_13 : decode cX12_init 13 = .ok (.aload_n 0, 1) := by decide +kernel
theorem dX12_init_14 : decode cX12_init 14 = .ok (.sipush 1020, 3) := by decide +kernel
theorem dX12_init_17 : decode cX12_init 17 = .ok (.newarray .int, 2) := by decide +kernel
theorem dX12_init_19 : decode cX12_init 19 = .ok (.putfield 13, 3) := by decide +kernel
theorem dX12_init_22 : decode cX12_init 22 = .ok (.aload_n 0, 1) := by decide +kernel
theorem dX12_init_23 : decode cX12_init 23 = .ok (.sipush 340, 3) := by decide +kernel
theorem dX12_init_26 : decode cX12_init 26 = .ok (.newarray .int, 2) := by decide +kernel
theorem dX12_init_28 : decode cX12_init 28 = .ok (.putfield 16, 3) := by decide +kernel
theorem dX12_init_31 : decode cX12_init 31 = .ok (.aload_n 0, 1) := by decide +kernel
theorem dX12_init_32 : decode cX12_init 32 = .ok (.iconst 2, 1) := by decide +kernel
theorem dX12_init_33 : decode cX12_init 33 = .ok (.newarray .boolean, 2) := by decide +kernel
theorem dX12_init_35 : decode cX12_init 35 = .ok (.putfield 19, 3) := by decide +kernel
theorem dX12_init_38 : decode cX12_init 38 = .ok (.aload_n 0, 1) := by decide +kernel
theorem dX12_init_39 : decode cX12_init 39 = .ok (.bipush 80, 2) := by decide +kernel
theorem dX12_init_41 : decode cX12_init 41 = .ok (.newarray .int, 2) := by decide +kernel
theorem dX12_init_43 : decode cX12_init 43 = .ok (.putfield 23, 3) := by decide +kernel
theorem dX12_init_46 : decode cX12_init 46 = .ok (.aload_n 0, 1) := by decide +kernel
theorem dX12_init_47 : decode cX12_init 47 = .ok (.bipush 6, 2) := by decide +kernel
theorem dX12_init_49 : decode cX12_init 49 = .ok (.newarray .int, 2) := by decide +kernel
theorem dX12_init_51 : decode cX12_init 51 = .ok (.putfield 26, 3) := by decide +kernel
theorem dX12_init_54 : decode cX12_init 54 = .ok (.aload_n 0, 1) := by decide +kernel
theorem dX12_init_55 : decode cX12_init 55 = .ok (.bipush 6, 2) := by decide +kernel
theorem dX12_init_57 : decode cX12_init 57 = .ok (.newarray .int, 2) := by decide +kernel
theorem dX12_init_59 : decode cX12_init 59 = .ok (.putfield 29, 3) := by decide +kernel
theorem dX12_init_62 : decode cX12_init 62 = .ok (.aload_n 0, 1) := by decide +kernel
theorem dX12_init_63 : decode cX12_init 63 = .ok (.sipush 2048, 3) := by decide +kernel
theorem dX12_init_66 : decode cX12_init 66 = .ok (.newarray .int, 2) := by decide +kernel
theorem dX12_init_68 : decode cX12_init 68 = .ok (.putfield 32, 3) := by decide +kernel
theorem dX12_init_71 : decode cX12_init 71 = .ok (.aload_n 0, 1) := by decide +kernel
theorem dX12_init_72 : decode cX12_init 72 = .ok (.sipush 2048, 3) := by decide +kernel
theorem dX12_init_75 : decode cX12_init 75 = .ok (.newarray .int, 2) := by decide +kernel
theorem dX12_init_77 : decode cX12_init 77 = .ok (.putfield 35, 3) := by decide +kernel
theorem dX12_init_80 : decode cX12_init 80 = .ok (.aload_n 0, 1) := by decide +kernel
theorem dX12_init_81 : decode cX12_init 81 = .ok (.sipush 320, 3) := by decide +kernel
theorem dX12_init_84 : decode cX12_init 84 = .ok (.newarray .int, 2) := by decide +kernel
theorem dX12_init_86 : decode cX12_init 86 = .ok (.putfield 38, 3) := by decide +kernel
theorem dX12_init_89 : decode cX12_init 89 = .ok (.aload_n 0, 1) := by decide +kernel
theorem dX12_init_90 : decode cX12_init 90 = .ok (.getfield 7, 3) := by decide +kernel
theorem dX12_init_93 : decode cX12_init 93 = .ok (.iconst 0, 1) := by decide +kernel
theorem dX12_init_94 : decode cX12_init 94 = .ok (.iconst 5, 1) := by decide +kernel
theorem dX12_init_95 : decode cX12_init 95 = .ok (.iastore, 1) := by decide +kernel
theorem dX12_init_96 : decode cX12_init 96 = .ok (.aload_n 0, 1) := by decide +kernel
theorem dX12_init_97 : decode cX12_init 97 = .ok (.getfield 7, 3) := by decide +kernel
theorem dX12_init_100 : decode cX12_init 100 = .ok (.iconst 1, 1) := by decide +kernel
theorem dX12_init_101 : decode cX12_init 101 = .ok (.bipush 10, 2) := by decide +kernel
theorem dX12_init_103 : decode cX12_init 103 = .ok (.iastore, 1) := by decide +kernel
theorem dX12_init_104 : decode cX12_init 104 = .ok (.aload_n 0, 1) := by decide +kernel
theorem dX12_init_105 : decode cX12_init 105 = .ok (.getfield 7, 3) := by decide +kernel
theorem dX12_init_108 : decode cX12_init 108 = .ok (.iconst 2, 1) := by decide +kernel
theorem dX12_init_109 : decode cX12_init 109 = .ok (.bipush 60, 2) := by decide +kernel
theorem dX12_init_111 : decode cX12_init 111 = .ok (.iastore, 1) := by decide +kernel
theorem dX12_init_112 : decode cX12_init 112 = .ok (.return_, 1) := by decide +kernel
theorem dX12_in_0 : decode cX12_in 0 = .ok (.iload_n 0, 1) := by decide +kernel
theorem dX12_in_1 : decode cX12_in 1 = .ok (.iload_n 1, 1) := by decide +kernel
theorem dX12_in_2 : decode cX12_in 2 = .ok (.if_icmp .lt 12, 3) := by decide +kernel
theorem dX12_in_5 : decode cX12_in 5 = .ok (.iload_n 0, 1) := by decide +kernel
theorem dX12_in_6 : decode cX12_in 6 = .ok (.iload_n 2, 1) := by decide +kernel
theorem dX12_in_7 : decode cX12_in 7 = .ok (.if_icmp .gt 7, 3) := by decide +kernel
theorem dX12_in_10 : decode cX12_in 10 = .ok (.iconst 1, 1) := by decide +kernel
theorem dX12_in_11 : decode cX12_in 11 = .ok (.goto 4, 3) := by decide +kernel
theorem dX12_in_14 : decode cX12_in 14 = .ok (.iconst 0, 1) := by decide +kernel
theorem dX12_in_15 : decode cX12_in 15 = .ok (.ireturn, 1) := by decide +kernel
theorem dX12_isRow_0 : decode cX12_isRow 0 = .ok (.iload_n 0, 1) := by decide +kernel
theorem dX12_isRow_1 : decode cX12_isRow 1 = .ok (.iconst 0, 1) := by decide +kernel
theorem dX12_isRow_2 : decode cX12_isRow 2 = .ok (.sipush 9999, 3) := by decide +kernel
theorem dX12_isRow_5 : decode cX12_isRow 5 = .ok (.invokestatic 41, 3) := by decide +kernel
theorem dX12_isRow_8 : decode cX12_isRow 8 = .ok (.ireturn, 1) := by decide +kernel
theorem dX12_depth_0 : decode cX12_depth 0 = .ok (.iload_n 0, 1) := by decide +kernel
theorem dX12_depth_1 : decode cX12_depth 1 = .ok (.istore_n 2, 1) := by decide +kernel
theorem dX12_depth_2 : decode cX12_depth 2 = .ok (.iload_n 1, 1) := by decide +kernel
theorem dX12_depth_3 : decode cX12_depth 3 = .ok (.istore_n 3, 1) := by decide +kernel
theorem dX12_depth_4 : decode cX12_depth 4 = .ok (.iload_n 3, 1) := by decide +kernel
theorem dX12_depth_5 : decode cX12_depth 5 = .ok (.iconst 3, 1) := by decide +kernel
theorem dX12_depth_6 : decode cX12_depth 6 = .ok (.if_icmp .ge 14, 3) := by decide +kernel
theorem dX12_depth_9 : decode cX12_depth 9 = .ok (.iload_n 2, 1) := by decide +kernel
theorem dX12_depth_10 : decode cX12_depth 10 = .ok (.bipush 10, 2) := by decide +kernel
theorem dX12_depth_12 : decode cX12_depth 12 = .ok (.idiv, 1) := by decide +kernel
theorem dX12_depth_13 : decode cX12_depth 13 = .ok (.istore_n 2, 1) := by decide +kernel
theorem dX12_depth_14 : decode cX12_depth 14 = .ok (.iinc 3 1, 3) := by decide +kernel
theorem dX12_depth_17 : decode cX12_depth 17 = .ok (.goto (-13), 3) := by decide +kernel
theorem dX12_depth_20 : decode cX12_depth 20 = .ok (.iload_n 2, 1) := by decide +kernel
theorem dX12_depth_21 : decode cX12_depth 21 = .ok (.bipush 10, 2) := by decide +kernel
theorem dX12_depth_23 : decode cX12_depth 23 = .ok (.irem, 1) := by decide +kernel
theorem dX12_depth_24 : decode cX12_depth 24 = .ok (.ireturn, 1) := by decide +kernel
theorem dX12_record_0 : decode cX12_record 0 = .ok (.aload_n 0, 1) := by decide +kernel
theorem dX12_record_1 : decode cX12_record 1 = .ok (.getfield 45, 3) := by decide +kernel
theorem dX12_record_4 : decode cX12_record 4 = .ok (.ifCond .eq 4, 3) := by decide +kernel
theorem dX12_record_7 : decode cX12_record 7 = .ok (.return_, 1) := by decide +kernel
theorem dX12_record_8 : decode cX12_record 8 = .ok (.aload_n 0, 1) := by decide +kernel
theorem dX12_record_9 : decode cX12_record 9 = .ok (.getfield 49, 3) := by decide +kernel
theorem dX12_record_12 : decode cX12_record 12 = .ok (.bipush 6, 2) := by decide +kernel
theorem dX12_record_14 : decode cX12_record 14 = .ok (.if_icmp .ne 39, 3) := by decide +kernel
theorem dX12_record_17 : decode cX12_record 17 = .ok (.iconst 0, 1) := by decide +kernel
theorem dX12_record_18 : decode cX12_record 18 = .ok (.istore_n 1, 1) := by decide +kernel
theorem dX12_record_19 : decode cX12_record 19 = .ok (.iload_n 1, 1) := by decide +kernel
theorem dX12_record_20 : decode cX12_record 20 = .ok (.sipush 850, 3) := by decide +kernel
theorem dX12_record_23 : decode cX12_record 23 = .ok (.if_icmp .ge 25, 3) := by decide +kernel
theorem dX12_record_26 : decode cX12_record 26 = .ok (.aload_n 0, 1) := by decide +kernel
theorem dX12_record_27 : decode cX12_record 27 = .ok (.getfield 13, 3) := by decide +kernel
theorem dX12_record_30 : decode cX12_record 30 = .ok (.iload_n 1, 1) := by decide +kernel
theorem dX12_record_31 : decode cX12_record 31 = .ok (.aload_n 0, 1) := by decide +kernel
theorem dX12_record_32 : decode cX12_record 32 = .ok (.getfield 13, 3) := by decide +kernel
theorem dX12_record_35 : decode cX12_record 35 = .ok (.iload_n 1, 1) := by decide +kernel
theorem dX12_record_36 : decode cX12_record 36 = .ok (.sipush 170, 3) := by decide +kernel
theorem dX12_record_39 : decode cX12_record 39 = .ok (.iadd, 1) := by decide +kernel
theorem dX12_record_40 : decode cX12_record 40 = .ok (.iaload, 1) := by decide +kernel
theorem dX12_record_41 : decode cX12_record 41 = .ok (.iastore, 1) := by decide +kernel
theorem dX12_record_42 : decode cX12_record 42 = .ok (.iinc 1 1, 3) := by decide +kernel
theorem dX12_record_45 : decode cX12_record 45 = .ok (.goto (-26), 3) := by decide +kernel
theorem dX12_record_48 : decode cX12_record 48 = .ok (.aload_n 0, 1) := by decide +kernel
theorem dX12_record_49 : decode cX12_record 49 = .ok (.iconst 5, 1) := by decide +kernel
theorem dX12_record_50 : decode cX12_record 50 = .ok (.putfield 49, 3) := by decide +kernel
theorem dX12_record_53 : decode cX12_record 53 = .ok (.iconst 0, 1) := by decide +kernel
theorem dX12_record_54 : decode cX12_record 54 = .ok (.istore_n 1, 1) := by decide +kernel
theorem dX12_record_55 : decode cX12_record 55 = .ok (.iload_n 1, 1) := by decide +kernel
theorem dX12_record_56 : decode cX12_record 56 = .ok (.sipush 170, 3) := by decide +kernel
theorem dX12_record_59 : decode cX12_record 59 = .ok (.if_icmp .ge 30, 3) := by decide +kernel
theorem dX12_record_62 : decode cX12_record 62 = .ok (.aload_n 0, 1) := by decide +kernel
theorem dX12_record_63 : decode cX12_record 63 = .ok (.getfield 13, 3) := by decide +kernel
theorem dX12_record_66 : decode cX12_record 66 = .ok (.aload_n 0, 1) := by decide +kernel
theorem dX12_record_67 : decode cX12_record 67 = .ok (.getfield 49, 3) := by decide +kernel
theorem dX12_record_70 : decode cX12_record 70 = .ok (.sipush 170, 3) := by decide +kernel
theorem dX12_record_73 : decode cX12_record 73 = .ok (.imul, 1) := by decide +kernel
theorem dX12_record_74 : decode cX12_record 74 = .ok (.iload_n 1, 1) := by decide +kernel
theorem dX12_record_75 : decode cX12_record 75 = .ok (.iadd, 1) := by decide +kernel
theorem dX12_record_76 : decode cX12_record 76 = .ok (.aload_n 0, 1) := by decide +kernel
theorem dX12_record_77 : decode cX12_record 77 = .ok (.getfield 7, 3) := by decide +kernel
theorem dX12_record_80 : decode cX12_record 80 = .ok (.iload_n 1, 1) := by decide +kernel
theorem dX12_record_81 : decode cX12_record 81 = .ok (.iaload, 1) := by decide +kernel
theorem dX12_record_82 : decode cX12_record 82 = .ok (.iastore, 1) := by decide +kernel
theorem dX12_record_83 : decode cX12_record 83 = .ok (.iinc 1 1, 3) := by decide +kernel
theorem dX12_record_86 : decode cX12_record 86 = .ok (.goto (-31), 3) := by decide +kernel
theorem dX12_record_89 : decode cX12_record 89 = .ok (.aload_n 0, 1) := by decide +kernel
theorem dX12_record_90 : decode cX12_record 90 = .ok (.dup, 1) := by decide +kernel
theorem dX12_record_91 : decode cX12_record 91 = .ok (.getfield 49, 3) := by decide +kernel
theorem dX12_record_94 : decode cX12_record 94 = .ok (.iconst 1, 1) := by decide +kernel
theorem dX12_record_95 : decode cX12_record 95 = .ok (.iadd, 1) := by decide +kernel
theorem dX12_record_96 : decode cX12_record 96 = .ok (.putfield 49, 3) := by decide +kernel
theorem dX12_record_99 : decode cX12_record 99 = .ok (.return_, 1) := by decide +kernel
theorem dX12_set_0 : decode cX12_set 0 = .ok (.iload_n 1, 1) := by decide +kernel
theorem dX12_set_1 : decode cX12_set 1 = .ok (.ifCond .ne 7, 3) := by decide +kernel
theorem dX12_set_4 : decode cX12_set 4 = .ok (.iconst 1, 1) := by decide +kernel
theorem dX12_set_5 : decode cX12_set 5 = .ok (.goto 14, 3) := by decide +kernel
theorem dX12_set_8 : decode cX12_set 8 = .ok (.iload_n 1, 1) := by decide +kernel
theorem dX12_set_9 : decode cX12_set 9 = .ok (.iconst 1, 1) := by decide +kernel
theorem dX12_set_10 : decode cX12_set 10 = .ok (.if_icmp .ne 7, 3) := by decide +kernel
theorem dX12_set_13 : decode cX12_set 13 = .ok (.iconst 0, 1) := by decide +kernel
theorem dX12_set_14 : decode cX12_set 14 = .ok (.goto 5, 3) := by decide +kernel
theorem dX12_set_17 : decode cX12_set 17 = .ok (.bipush 40, 2) := by decide +kernel
theorem dX12_set_19 : decode cX12_set 19 = .ok (.istore_n 3, 1) := by decide +kernel
theorem dX12_set_20 : decode cX12_set 20 = .ok (.iload_n 1, 1) := by decide +kernel
theorem dX12_set_21 : decode cX12_set 21 = .ok (.ifCond .ne 8, 3) := by decide +kernel
theorem dX12_set_24 : decode cX12_set 24 = .ok (.bipush 9, 2) := by decide +kernel
theorem dX12_set_26 : decode cX12_set 26 = .ok (.goto 15, 3) := by decide +kernel
theorem dX12_set_29 : decode cX12_set 29 = .ok (.iload_n 1, 1) := by decide +kernel
theorem dX12_set_30 : decode cX12_set 30 = .ok (.iconst 1, 1) := by decide +kernel
theorem dX12_set_31 : decode cX12_set 31 = .ok (.if_icmp .ne 8, 3) := by decide +kernel
theorem dX12_set_34 : decode cX12_set 34 = .ok (.bipush 50, 2) := by decide +kernel
theorem dX12_set_36 : decode cX12_set 36 = .ok (.goto 5, 3) := by decide +kernel
theorem dX12_set_39 : decode cX12_set 39 = .ok (.bipush 90, 2) := by decide +kernel
theorem dX12_set_41 : decode cX12_set 41 = .ok (.istore 4, 2) := by decide +kernel
theorem dX12_set_43 : decode cX12_set 43 = .ok (.iload_n 1, 1) := by decide +kernel
theorem dX12_set_44 : decode cX12_set 44 = .ok (.iconst 0, 1) := by decide +kernel
theorem dX12_set_45 : decode cX12_set 45 = .ok (.iconst 2, 1) := by decide +kernel
theorem dX12_set_46 : decode cX12_set 46 = .ok (.invokestatic 41, 3) := by decide +kernel
theorem dX12_set_49 : decode cX12_set 49 = .ok (.ifCond .eq 13, 3) := by decide +kernel
theorem dX12_set_52 : decode cX12_set 52 = .ok (.iload_n 2, 1) := by decide +kernel
theorem dX12_set_53 : decode cX12_set 53 = .ok (.iload_n 3, 1) := by decide +kernel
theorem dX12_set_54 : decode cX12_set 54 = .ok (.iload 4, 2) := by decide +kernel
theorem dX12_set_56 : decode cX12_set 56 = .ok (.invokestatic 41, 3) := by decide +kernel
theorem dX12_set_59 : decode cX12_set 59 = .ok (.ifCond .ne 6, 3) := by decide +kernel
theorem dX12_set_62 : decode cX12_set 62 = .ok (.bipush (-2), 2) := by decide +kernel
theorem dX12_set_64 : decode cX12_set 64 = .ok (.ireturn, 1) := by decide +kernel
theorem dX12_set_65 : decode cX12_set 65 = .ok (.aload_n 0, 1) := by decide +kernel
theorem dX12_set_66 : decode cX12_set 66 = .ok (.invokevirtual 53, 3) := by decide +kernel
theorem dX12_set_69 : decode cX12_set 69 = .ok (.aload_n 0, 1) := by decide +kernel
theorem dX12_set_70 : decode cX12_set 70 = .ok (.getfield 7, 3) := by decide +kernel
theorem dX12_set_73 : decode cX12_set 73 = .ok (.iload_n 1, 1) := by decide +kernel
theorem dX12_set_74 : decode cX12_set 74 = .ok (.iaload, 1) := by decide +kernel
theorem dX12_set_75 : decode cX12_set 75 = .ok (.istore 5, 2) := by decide +kernel
theorem dX12_set_77 : decode cX12_set 77 = .ok (.aload_n 0, 1) := by decide +kernel
theorem dX12_set_78 : decode cX12_set 78 = .ok (.getfield 7, 3) := by decide +kernel
theorem dX12_set_81 : decode cX12_set 81 = .ok (.iload_n 1, 1) := by decide +kernel
theorem dX12_set_82 : decode cX12_set 82 = .ok (.iload_n 2, 1) := by decide +kernel
theorem dX12_set_83 : decode cX12_set 83 = .ok (.iastore, 1) := by decide +kernel
theorem dX12_set_84 : decode cX12_set 84 = .ok (.iload 5, 2) := by decide +kernel
theorem dX12_set_86 : decode cX12_set 86 = .ok (.ireturn, 1) := by decide +kernel
theorem dX12_brass_0 : decode cX12_brass 0 = .ok (.iload_n 1, 1) := by decide +kernel
theorem dX12_brass_1 : decode cX12_brass 1 = .ok (.iconst 1, 1) := by decide +kernel
theorem dX12_brass_2 : decode cX12_brass 2 = .ok (.sipush 1000, 3) := by decide +kernel
theorem dX12_brass_5 : decode cX12_brass 5 = .ok (.invokestatic 41, 3) := by decide +kernel
theorem dX12_brass_8 : decode cX12_brass 8 = .ok (.ifCond .ne 6, 3) := by decide +kernel
theorem dX12_brass_11 : decode cX12_brass 11 = .ok (.bipush (-2), 2) := by decide +kernel
theorem dX12_brass_13 : decode cX12_brass 13 = .ok (.ireturn, 1) := by decide +kernel
theorem dX12_brass_14 : decode cX12_brass 14 = .ok (.aload_n 0, 1) := by decide +kernel
theorem dX12_brass_15 : decode cX12_brass 15 = .ok (.invokevirtual 53, 3) := by decide +kernel
theorem dX12_brass_18 : decode cX12_brass 18 = .ok (.aload_n 0, 1) := by decide +kernel
theorem dX12_brass_19 : decode cX12_brass 19 = .ok (.getfield 7, 3) := by decide +kernel
theorem dX12_brass_22 : decode cX12_brass 22 = .ok (.bipush 6, 2) := by decide +kernel
theorem dX12_brass_24 : decode cX12_brass 24 = .ok (.dup2, 1) := by decide +kernel
theorem dX12_brass_25 : decode cX12_brass 25 = .ok (.iaload, 1) := by decide +kernel
theorem dX12_brass_26 : decode cX12_brass 26 = .ok (.iload_n 1, 1) := by decide +kernel
theorem dX12_brass_27 : decode cX12_brass 27 = .ok (.iadd, 1) := by decide +kernel
theorem dX12_brass_28 : decode cX12_brass 28 = .ok (.iastore, 1) := by decide +kernel
theorem dX12_brass_29 : decode cX12_brass 29 = .ok (.aload_n 0, 1) := by decide +kernel
theorem dX12_brass_30 : decode cX12_brass 30 = .ok (.getfield 7, 3) := by decide +kernel
theorem dX12_brass_33 : decode cX12_brass 33 = .ok (.bipush 7, 2) := by decide +kernel
theorem dX12_brass_35 : decode cX12_brass 35 = .ok (.dup2, 1) := by decide +kernel
theorem dX12_brass_36 : decode cX12_brass 36 = .ok (.iaload, 1) := by decide +kernel
theorem dX12_brass_37 : decode cX12_brass 37 = .ok (.iload_n 1, 1) := by decide +kernel
theorem dX12_brass_38 : decode cX12_brass 38 = .ok (.iadd, 1) := by decide +kernel
theorem dX12_brass_39 : decode cX12_brass 39 = .ok (.iastore, 1) := by decide +kernel
theorem dX12_brass_40 : decode cX12_brass 40 = .ok (.aload_n 0, 1) := by decide +kernel
theorem dX12_brass_41 : decode cX12_brass 41 = .ok (.getfield 7, 3) := by decide +kernel
theorem dX12_brass_44 : decode cX12_brass 44 = .ok (.bipush 7, 2) := by decide +kernel
theorem dX12_brass_46 : decode cX12_brass 46 = .ok (.iaload, 1) := by decide +kernel
theorem dX12_brass_47 : decode cX12_brass 47 = .ok (.ireturn, 1) := by decide +kernel
theorem dX12_weightOf_0 : decode cX12_weightOf 0 = .ok (.iconst 0, 1) := by decide +kernel
theorem dX12_weightOf_1 : decode cX12_weightOf 1 = .ok (.istore_n 2, 1) := by decide +kernel
theorem dX12_weightOf_2 : decode cX12_weightOf 2 = .ok (.iconst 0, 1) := by decide +kernel
theorem dX12_weightOf_3 : decode cX12_weightOf 3 = .ok (.istore_n 3, 1) := by decide +kernel
theorem dX12_weightOf_4 : decode cX12_weightOf 4 = .ok (.iload_n 3, 1) := by decide +kernel
theorem dX12_weightOf_5 : decode cX12_weightOf 5 = .ok (.iconst 4, 1) := by decide +kernel
theorem dX12_weightOf_6 : decode cX12_weightOf 6 = .ok (.if_icmp .ge 38, 3) := by decide +kernel
theorem dX12_weightOf_9 : decode cX12_weightOf 9 = .ok (.iload_n 2, 1) := by decide +kernel
theorem dX12_weightOf_10 : decode cX12_weightOf 10 = .ok (.iconst 1, 1) := by decide +kernel
theorem dX12_weightOf_11 : decode cX12_weightOf 11 = .ok (.iload_n 0, 1) := by decide +kernel
theorem dX12_weightOf_12 : decode cX12_weightOf 12 = .ok (.iload_n 3, 1) := by decide +kernel
theorem dX12_weightOf_13 : decode cX12_weightOf 13 = .ok (.invokestatic 56, 3) := by decide +kernel
theorem dX12_weightOf_16 : decode cX12_weightOf 16 = .ok (.iadd, 1) := by decide +kernel
theorem dX12_weightOf_17 : decode cX12_weightOf 17 = .ok (.iload_n 0, 1) := by decide +kernel
theorem dX12_weightOf_18 : decode cX12_weightOf 18 = .ok (.iload_n 3, 1) := by decide +kernel
theorem dX12_weightOf_19 : decode cX12_weightOf 19 = .ok (.invokestatic 56, 3) := by decide +kernel
theorem dX12_weightOf_22 : decode cX12_weightOf 22 = .ok (.iload_n 1, 1) := by decide +kernel
theorem dX12_weightOf_23 : decode cX12_weightOf 23 = .ok (.iload_n 3, 1) := by decide +kernel
theorem dX12_weightOf_24 : decode cX12_weightOf 24 = .ok (.invokestatic 56, 3) := by decide +kernel
theorem dX12_weightOf_27 : decode cX12_weightOf 27 = .ok (.if_icmp .ne 7, 3) := by decide +kernel
theorem dX12_weightOf_30 : decode cX12_weightOf 30 = .ok (.iconst 0, 1) := by decide +kernel
theorem dX12_weightOf_31 : decode cX12_weightOf 31 = .ok (.goto 4, 3) := by decide +kernel
theorem dX12_weightOf_34 : decode cX12_weightOf 34 = .ok (.iconst 1, 1) := by decide +kernel
theorem dX12_weightOf_35 : decode cX12_weightOf 35 = .ok (.iadd, 1) := by decide +kernel
theorem dX12_weightOf_36 : decode cX12_weightOf 36 = .ok (.iadd, 1) := by decide +kernel
theorem dX12_weightOf_37 : decode cX12_weightOf 37 = .ok (.istore_n 2, 1) := by decide +kernel
theorem dX12_weightOf_38 : decode cX12_weightOf 38 = .ok (.iinc 3 1, 3) := by decide +kernel
theorem dX12_weightOf_41 : decode cX12_weightOf 41 = .ok (.goto (-37), 3) := by decide +kernel
theorem dX12_weightOf_44 : decode cX12_weightOf 44 = .ok (.iload_n 2, 1) := by decide +kernel
theorem dX12_weightOf_45 : decode cX12_weightOf 45 = .ok (.ireturn, 1) := by decide +kernel
theorem dX12_isDoor_0 : decode cX12_isDoor 0 = .ok (.iload_n 1, 1) := by decide +kernel
theorem dX12_isDoor_1 : decode cX12_isDoor 1 = .ok (.iconst 0, 1) := by decide +kernel
theorem dX12_isDoor_2 : decode cX12_isDoor 2 = .ok (.aload_n 0, 1) := by decide +kernel
theorem dX12_isDoor_3 : decode cX12_isDoor 3 = .ok (.getfield 7, 3) := by decide +kernel
theorem dX12_isDoor_6 : decode cX12_isDoor 6 = .ok (.iconst 4, 1) := by decide +kernel
theorem dX12_isDoor_7 : decode cX12_isDoor 7 = .ok (.iaload, 1) := by decide +kernel
theorem dX12_isDoor_8 : decode cX12_isDoor 8 = .ok (.iconst 1, 1) := by decide +kernel
theorem dX12_isDoor_9 : decode cX12_isDoor 9 = .ok (.isub, 1) := by decide +kernel
theorem dX12_isDoor_10 : decode cX12_isDoor 10 = .ok (.invokestatic 41, 3) := by decide +kernel
theorem dX12_isDoor_13 : decode cX12_isDoor 13 = .ok (.ireturn, 1) := by decide +kernel
theorem dX12_ofLock_0 : decode cX12_ofLock 0 = .ok (.aload_n 0, 1) := by decide +kernel
theorem dX12_ofLock_1 : decode cX12_ofLock 1 = .ok (.getfield 7, 3) := by decide +kernel
theorem dX12_ofLock_4 : decode cX12_ofLock 4 = .ok (.bipush 20, 2) := by decide +kernel
theorem dX12_ofLock_6 : decode cX12_ofLock 6 = .ok (.bipush 6, 2) := by decide +kernel
theorem dX12_ofLock_8 : decode cX12_ofLock 8 = .ok (.iload_n 1, 1) := by decide +kernel
theorem dX12_ofLock_9 : decode cX12_ofLock 9 = .ok (.imul, 1) := by decide +kernel
theorem dX12_ofLock_10 : decode cX12_ofLock 10 = .ok (.iadd, 1) := by decide +kernel
theorem dX12_ofLock_11 : decode cX12_ofLock 11 = .ok (.iload_n 2, 1) := by decide +kernel
theorem dX12_ofLock_12 : decode cX12_ofLock 12 = .ok (.iadd, 1) := by decide +kernel
theorem dX12_ofLock_13 : decode cX12_ofLock 13 = .ok (.iaload, 1) := by decide +kernel
theorem dX12_ofLock_14 : decode cX12_ofLock 14 = .ok (.ireturn, 1) := by decide +kernel
theorem dX12_door_0 : decode cX12_door 0 = .ok (.iload_n 1, 1) := by decide +kernel
theorem dX12_door_1 : decode cX12_door 1 = .ok (.iconst 0, 1) := by decide +kernel
theorem dX12_door_2 : decode cX12_door 2 = .ok (.bipush 7, 2) := by decide +kernel
theorem dX12_door_4 : decode cX12_door 4 = .ok (.invokestatic 41, 3) := by decide +kernel
theorem dX12_door_7 : decode cX12_door 7 = .ok (.ifCond .eq 33, 3) := by decide +kernel
theorem dX12_door_10 : decode cX12_door 10 = .ok (.iload_n 2, 1) := by decide +kernel
theorem dX12_door_11 : decode cX12_door 11 = .ok (.iconst 0, 1) := by decide +kernel
theorem dX12_door_12 : decode cX12_door 12 = .ok (.bipush 7, 2) := by decide +kernel
theorem dX12_door_14 : decode cX12_door 14 = .ok (.invokestatic 41, 3) := by decide +kernel
theorem dX12_door_17 : decode cX12_door 17 = .ok (.ifCond .eq 23, 3) := by decide +kernel
theorem dX12_door_20 : decode cX12_door 20 = .ok (.iload_n 1, 1) := by decide +kernel
theorem dX12_door_21 : decode cX12_door 21 = .ok (.iload_n 2, 1) := by decide +kernel
theorem dX12_door_22 : decode cX12_door 22 = .ok (.if_icmp .eq 18, 3) := by decide +kernel
theorem dX12_door_25 : decode cX12_door 25 = .ok (.iload_n 3, 1) := by decide +kernel
theorem dX12_door_26 : decode cX12_door 26 = .ok (.invokestatic 60, 3) := by decide +kernel
theorem dX12_door_29 : decode cX12_door 29 = .ok (.ifCond .eq 11, 3) := by decide +kernel
theorem dX12_door_32 : decode cX12_door 32 = .ok (.iload 4, 2) := by decide +kernel
theorem dX12_door_34 : decode cX12_door 34 = .ok (.invokestatic 60, 3) := by decide +kernel
theorem dX12_door_37 : decode cX12_door 37 = .ok (.ifCond .ne 6, 3) := by decide +kernel
theorem dX12_door_40 : decode cX12_door 40 = .ok (.bipush (-2), 2) := by decide +kernel
theorem dX12_door_42 : decode cX12_door 42 = .ok (.ireturn, 1) := by decide +kernel
theorem dX12_door_43 : decode cX12_door 43 = .ok (.aload_n 0, 1) := by decide +kernel
theorem dX12_door_44 : decode cX12_door 44 = .ok (.getfield 7, 3) := by decide +kernel
theorem dX12_door_47 : decode cX12_door 47 = .ok (.iconst 4, 1) := by decide +kernel
theorem dX12_door_48 : decode cX12_door 48 = .ok (.iaload, 1) := by decide +kernel
theorem dX12_door_49 : decode cX12_door 49 = .ok (.bipush 10, 2) := by decide +kernel
theorem dX12_door_51 : decode cX12_door 51 = .ok (.if_icmp .ne 6, 3) := by decide +kernel
theorem dX12_door_54 : decode cX12_door 54 = .ok (.bipush (-4), 2) := by decide +kernel
theorem dX12_door_56 : decode cX12_door 56 = .ok (.ireturn, 1) := by decide +kernel
theorem dX12_door_57 : decode cX12_door 57 = .ok (.aload_n 0, 1) := by decide +kernel
theorem dX12_door_58 : decode cX12_door 58 = .ok (.getfield 7, 3) := by decide +kernel
theorem dX12_door_61 : decode cX12_door 61 = .ok (.bipush 7, 2) := by decide +kernel
theorem dX12_door_63 : decode cX12_door 63 = .ok (.iaload, 1) := by decide +kernel
theorem dX12_door_64 : decode cX12_door 64 = .ok (.iload_n 3, 1) := by decide +kernel
theorem dX12_door_65 : decode cX12_door 65 = .ok (.iload 4, 2) := by decide +kernel
theorem dX12_door_67 : decode cX12_door 67 = .ok (.invokestatic 64, 3) := by decide +kernel
theorem dX12_door_70 : decode cX12_door 70 = .ok (.if_icmp .ge 6, 3) := by decide +kernel
theorem dX12_door_73 : decode cX12_door 73 = .ok (.bipush (-5), 2) := by decide +kernel
theorem dX12_door_75 : decode cX12_door 75 = .ok (.ireturn, 1) := by decide +kernel
theorem dX12_door_76 : decode cX12_door 76 = .ok (.aload_n 0, 1) := by decide +kernel
theorem dX12_door_77 : decode cX12_door 77 = .ok (.invokevirtual 53, 3) := by decide +kernel
theorem dX12_door_80 : decode cX12_door 80 = .ok (.bipush 20, 2) := by decide +kernel
theorem dX12_door_82 : decode cX12_door 82 = .ok (.bipush 6, 2) := by decide +kernel
theorem dX12_door_84 : decode cX12_door 84 = .ok (.aload_n 0, 1) := by decide +kernel
theorem dX12_door_85 : decode cX12_door 85 = .ok (.getfield 7, 3) := by decide +kernel
theorem dX12_door_88 : decode cX12_door 88 = .ok (.iconst 4, 1) := by decide +kernel
theorem dX12_door_89 : decode cX12_door 89 = .ok (.iaload, 1) := by decide +kernel
theorem dX12_door_90 : decode cX12_door 90 = .ok (.imul, 1) := by decide +kernel
theorem dX12_door_91 : decode cX12_door 91 = .ok (.iadd, 1) := by decide +kernel
theorem dX12_door_92 : decode cX12_door 92 = .ok (.istore 5, 2) := by decide +kernel
theorem dX12_door_94 : decode cX12_door 94 = .ok (.aload_n 0, 1) := by decide +kernel
theorem dX12_door_95 : decode cX12_door 95 = .ok (.getfield 7, 3) := by decide +kernel
theorem dX12_door_98 : decode cX12_door 98 = .ok (.iload 5, 2) := by decide +kernel
theorem dX12_door_100 : decode cX12_door 100 = .ok (.iload_n 1, 1) := by decide +kernel
theorem dX12_door_101 : decode cX12_door 101 = .ok (.iastore, 1) := by decide +kernel
theorem dX12_door_102 : decode cX12_door 102 = .ok (.aload_n 0, 1) := by decide +kernel
theorem dX12_door_103 : decode cX12_door 103 = .ok (.getfield 7, 3) := by decide +kernel
theorem dX12_door_106 : decode cX12_door 106 = .ok (.iload 5, 2) := by decide +kernel
theorem dX12_door_108 : decode cX12_door 108 = .ok (.iconst 1, 1) := by decide +kernel
theorem dX12_door_109 : decode cX12_door 109 = .ok (.iadd, 1) := by decide +kernel
theorem dX12_door_110 : decode cX12_door 110 = .ok (.iload_n 2, 1) := by decide +kernel
theorem dX12_door_111 : decode cX12_door 111 = .ok (.iastore, 1) := by decide +kernel
theorem dX12_door_112 : decode cX12_door 112 = .ok (.aload_n 0, 1) := by decide +kernel
theorem dX12_door_113 : decode cX12_door 113 = .ok (.getfield 7, 3) := by decide +kernel
theorem dX12_door_116 : decode cX12_door 116 = .ok (.iload 5, 2) := by decide +kernel
theorem dX12_door_118 : decode cX12_door 118 = .ok (.iconst 2, 1) := by decide +kernel
theorem dX12_door_119 : decode cX12_door 119 = .ok (.iadd, 1) := by decide +kernel
theorem dX12_door_120 : decode cX12_door 120 = .ok (.iload_n 3, 1) := by decide +kernel
theorem dX12_door_121 : decode cX12_door 121 = .ok (.iastore, 1) := by decide +kernel
theorem dX12_door_122 : decode cX12_door 122 = .ok (.aload_n 0, 1) := by decide +kernel
theorem dX12_door_123 : decode cX12_door 123 = .ok (.getfield 7, 3) := by decide +kernel
theorem dX12_door_126 : decode cX12_door 126 = .ok (.iload 5, 2) := by decide +kernel
theorem dX12_door_128 : decode cX12_door 128 = .ok (.iconst 3, 1) := by decide +kernel
theorem dX12_door_129 : decode cX12_door 129 = .ok (.iadd, 1) := by decide +kernel
theorem dX12_door_130 : decode cX12_door 130 = .ok (.iload 4, 2) := by decide +kernel
theorem dX12_door_132 : decode cX12_door 132 = .ok (.iastore, 1) := by decide +kernel
theorem dX12_door_133 : decode cX12_door 133 = .ok (.aload_n 0, 1) := by decide +kernel
theorem dX12_door_134 : decode cX12_door 134 = .ok (.getfield 7, 3) := by decide +kernel
theorem dX12_door_137 : decode cX12_door 137 = .ok (.bipush 7, 2) := by decide +kernel
theorem dX12_door_139 : decode cX12_door 139 = .ok (.dup2, 1) := by decide +kernel
theorem dX12_door_140 : decode cX12_door 140 = .ok (.iaload, 1) := by decide +kernel
theorem dX12_door_141 : decode cX12_door 141 = .ok (.iload_n 3, 1) := by decide +kernel
theorem dX12_door_142 : decode cX12_door 142 = .ok (.iload 4, 2) := by decide +kernel
theorem dX12_door_144 : decode cX12_door 144 = .ok (.invokestatic 64, 3) := by decide +kernel
theorem dX12_door_147 : decode cX12_door 147 = .ok (.isub, 1) := by decide +kernel
theorem dX12_door_148 : decode cX12_door 148 = .ok (.iastore, 1) := by decide +kernel
theorem dX12_door_149 : decode cX12_door 149 = .ok (.aload_n 0, 1) := by decide +kernel
theorem dX12_door_150 : decode cX12_door 150 = .ok (.getfield 7, 3) := by decide +kernel
theorem dX12_door_153 : decode cX12_door 153 = .ok (.iconst 4, 1) := by decide +kernel
theorem dX12_door_154 : decode cX12_door 154 = .ok (.dup2, 1) := by decide +kernel
theorem dX12_door_155 : decode cX12_door 155 = .ok (.iaload, 1) := by decide +kernel
theorem dX12_door_156 : decode cX12_door 156 = .ok (.iconst 1, 1) := by decide +kernel
theorem dX12_door_157 : decode cX12_door 157 = .ok (.iadd, 1) := by decide +kernel
theorem dX12_door_158 : decode cX12_door 158 = .ok (.iastore, 1) := by decide +kernel
theorem dX12_door_159 : decode cX12_door 159 = .ok (.aload_n 0, 1) := by decide +kernel
theorem dX12_door_160 : decode cX12_door 160 = .ok (.getfield 7, 3) := by decide +kernel
theorem dX12_door_163 : decode cX12_door 163 = .ok (.iconst 4, 1) := by decide +kernel
theorem dX12_door_164 : decode cX12_door 164 = .ok (.iaload, 1) := by decide +kernel
theorem dX12_door_165 : decode cX12_door 165 = .ok (.iconst 1, 1) := by decide +kernel
theorem dX12_door_166 : decode cX12_door 166 = .ok (.isub, 1) := by decide +kernel
theorem dX12_door_167 : decode cX12_door 167 = .ok (.ireturn, 1) := by decide +kernel
theorem dX12_lossOf_0 : decode cX12_lossOf 0 = .ok (.iload_n 1, 1) := by decide +kernel
theorem dX12_lossOf_1 : decode cX12_lossOf 1 = .ok (.aload_n 0, 1) := by decide +kernel
theorem dX12_lossOf_2 : decode cX12_lossOf 2 = .ok (.getfield 7, 3) := by decide +kernel
theorem dX12_lossOf_5 : decode cX12_lossOf 5 = .ok (.iconst 1, 1) := by decide +kernel
theorem dX12_lossOf_6 : decode cX12_lossOf 6 = .ok (.iaload, 1) := by decide +kernel
theorem dX12_lossOf_7 : decode cX12_lossOf 7 = .ok (.imul, 1) := by decide +kernel
theorem dX12_lossOf_8 : decode cX12_lossOf 8 = .ok (.bipush 99, 2) := by decide +kernel
theorem dX12_lossOf_10 : decode cX12_lossOf 10 = .ok (.iadd, 1) := by decide +kernel
theorem dX12_lossOf_11 : decode cX12_lossOf 11 = .ok (.bipush 100, 2) := by decide +kernel
theorem dX12_lossOf_13 : decode cX12_lossOf 13 = .ok (.idiv, 1) := by decide +kernel
theorem dX12_lossOf_14 : decode cX12_lossOf 14 = .ok (.ireturn, 1) := by decide +kernel
theorem dX12_lockWeight_0 : decode cX12_lockWeight 0 = .ok (.aload_n 0, 1) := by decide +kernel
theorem dX12_lockWeight_1 : decode cX12_lockWeight 1 = .ok (.iload_n 1, 1) := by decide +kernel
theorem dX12_lockWeight_2 : decode cX12_lockWeight 2 = .ok (.iconst 2, 1) := by decide +kernel
theorem dX12_lockWeight_3 : decode cX12_lockWeight 3 = .ok (.invokevirtual 67, 3) := by decide +kernel
theorem dX12_lockWeight_6 : decode cX12_lockWeight 6 = .ok (.aload_n 0, 1) := by decide +kernel
theorem dX12_lockWeight_7 : decode cX12_lockWeight 7 = .ok (.iload_n 1, 1) := by decide +kernel
theorem dX12_lockWeight_8 : decode cX12_lockWeight 8 = .ok (.iconst 3, 1) := by decide +kernel
theorem dX12_lockWeight_9 : decode cX12_lockWeight 9 = .ok (.invokevirtual 67, 3) := by decide +kernel
theorem dX12_lockWeight_12 : decode cX12_lockWeight 12 = .ok (.invokestatic 64, 3) := by decide +kernel
theorem dX12_lockWeight_15 : decode cX12_lockWeight 15 = .ok (.ireturn, 1) := by decide +kernel
theorem dX12_givesOf_0 : decode cX12_givesOf 0 = .ok (.aload_n 0, 1) := by decide +kernel
theorem dX12_givesOf_1 : decode cX12_givesOf 1 = .ok (.iload_n 1, 1) := by decide +kernel
theorem dX12_givesOf_2 : decode cX12_givesOf 2 = .ok (.invokevirtual 70, 3) := by decide +kernel
theorem dX12_givesOf_5 : decode cX12_givesOf 5 = .ok (.aload_n 0, 1) := by decide +kernel
theorem dX12_givesOf_6 : decode cX12_givesOf 6 = .ok (.aload_n 0, 1) := by decide +kernel
theorem dX12_givesOf_7 : decode cX12_givesOf 7 = .ok (.iload_n 1, 1) := by decide +kernel
theorem dX12_givesOf_8 : decode cX12_givesOf 8 = .ok (.invokevirtual 70, 3) := by decide +kernel
theorem dX12_givesOf_11 : decode cX12_givesOf 11 = .ok (.invokevirtual 74, 3) := by decide +kernel
theorem dX12_givesOf_14 : decode cX12_givesOf 14 = .ok (.isub, 1) := by decide +kernel
theorem dX12_givesOf_15 : decode cX12_givesOf 15 = .ok (.ireturn, 1) := by decide +kernel
theorem dX12_recut_0 : decode cX12_recut 0 = .ok (.aload_n 0, 1) := by decide +kernel
theorem dX12_recut_1 : decode cX12_recut 1 = .ok (.getfield 7, 3) := by decide +kernel
theorem dX12_recut_4 : decode cX12_recut 4 = .ok (.bipush 8, 2) := by decide +kernel
theorem dX12_recut_6 : decode cX12_recut 6 = .ok (.dup2, 1) := by decide +kernel
theorem dX12_recut_7 : decode cX12_recut 7 = .ok (.iaload, 1) := by decide +kernel
theorem dX12_recut_8 : decode cX12_recut 8 = .ok (.aload_n 0, 1) := by decide +kernel
theorem dX12_recut_9 : decode cX12_recut 9 = .ok (.aload_n 0, 1) := by decide +kernel
theorem dX12_recut_10 : decode cX12_recut 10 = .ok (.iload_n 1, 1) := by decide +kernel
theorem dX12_recut_11 : decode cX12_recut 11 = .ok (.invokevirtual 70, 3) := by decide +kernel
theorem dX12_recut_14 : decode cX12_recut 14 = .ok (.invokevirtual 74, 3) := by decide +kernel
theorem dX12_recut_17 : decode cX12_recut 17 = .ok (.iadd, 1) := by decide +kernel
theorem dX12_recut_18 : decode cX12_recut 18 = .ok (.iastore, 1) := by decide +kernel
theorem dX12_recut_19 : decode cX12_recut 19 = .ok (.aload_n 0, 1) := by decide +kernel
theorem dX12_recut_20 : decode cX12_recut 20 = .ok (.getfield 7, 3) := by decide +kernel
theorem dX12_recut_23 : decode cX12_recut 23 = .ok (.bipush 7, 2) := by decide +kernel
theorem dX12_recut_25 : decode cX12_recut 25 = .ok (.dup2, 1) := by decide +kernel
theorem dX12_recut_26 : decode cX12_recut 26 = .ok (.iaload, 1) := by decide +kernel
theorem dX12_recut_27 : decode cX12_recut 27 = .ok (.aload_n 0, 1) := by decide +kernel
theorem dX12_recut_28 : decode cX12_recut 28 = .ok (.iload_n 1, 1) := by decide +kernel
theorem dX12_recut_29 : decode cX12_recut 29 = .ok (.invokevirtual 77, 3) := by decide +kernel
theorem dX12_recut_32 : decode cX12_recut 32 = .ok (.iload_n 2, 1) := by decide +kernel
theorem dX12_recut_33 : decode cX12_recut 33 = .ok (.iload_n 3, 1) := by decide +kernel
theorem dX12_recut_34 : decode cX12_recut 34 = .ok (.invokestatic 64, 3) := by decide +kernel
theorem dX12_recut_37 : decode cX12_recut 37 = .ok (.isub, 1) := by decide +kernel
theorem dX12_recut_38 : decode cX12_recut 38 = .ok (.iadd, 1) := by decide +kernel
theorem dX12_recut_39 : decode cX12_recut 39 = .ok (.iastore, 1) := by decide +kernel
theorem dX12_recut_40 : decode cX12_recut 40 = .ok (.aload_n 0, 1) := by decide +kernel
theorem dX12_recut_41 : decode cX12_recut 41 = .ok (.getfield 7, 3) := by decide +kernel
theorem dX12_recut_44 : decode cX12_recut 44 = .ok (.bipush 20, 2) := by decide +kernel
theorem dX12_recut_46 : decode cX12_recut 46 = .ok (.bipush 6, 2) := by decide +kernel
theorem dX12_recut_48 : decode cX12_recut 48 = .ok (.iload_n 1, 1) := by decide +kernel
theorem dX12_recut_49 : decode cX12_recut 49 = .ok (.imul, 1) := by decide +kernel
theorem dX12_recut_50 : decode cX12_recut 50 = .ok (.iadd, 1) := by decide +kernel
theorem dX12_recut_51 : decode cX12_recut 51 = .ok (.iconst 2, 1) := by decide +kernel
theorem dX12_recut_52 : decode cX12_recut 52 = .ok (.iadd, 1) := by decide +kernel
theorem dX12_recut_53 : decode cX12_recut 53 = .ok (.iload_n 2, 1) := by decide +kernel
theorem dX12_recut_54 : decode cX12_recut 54 = .ok (.iastore, 1) := by decide +kernel
theorem dX12_recut_55 : decode cX12_recut 55 = .ok (.aload_n 0, 1) := by decide +kernel
theorem dX12_recut_56 : decode cX12_recut 56 = .ok (.getfield 7, 3) := by decide +kernel
theorem dX12_recut_59 : decode cX12_recut 59 = .ok (.bipush 20, 2) := by decide +kernel
theorem dX12_recut_61 : decode cX12_recut 61 = .ok (.bipush 6, 2) := by decide +kernel
theorem dX12_recut_63 : decode cX12_recut 63 = .ok (.iload_n 1, 1) := by decide +kernel
theorem dX12_recut_64 : decode cX12_recut 64 = .ok (.imul, 1) := by decide +kernel
theorem dX12_recut_65 : decode cX12_recut 65 = .ok (.iadd, 1) := by decide +kernel
theorem dX12_recut_66 : decode cX12_recut 66 = .ok (.iconst 3, 1) := by decide +kernel
theorem dX12_recut_67 : decode cX12_recut 67 = .ok (.iadd, 1) := by decide +kernel
theorem dX12_recut_68 : decode cX12_recut 68 = .ok (.iload_n 3, 1) := by decide +kernel
theorem dX12_recut_69 : decode cX12_recut 69 = .ok (.iastore, 1) := by decide +kernel
theorem dX12_recut_70 : decode cX12_recut 70 = .ok (.aload_n 0, 1) := by decide +kernel
theorem dX12_recut_71 : decode cX12_recut 71 = .ok (.getfield 7, 3) := by decide +kernel
theorem dX12_recut_74 : decode cX12_recut 74 = .ok (.bipush 20, 2) := by decide +kernel
theorem dX12_recut_76 : decode cX12_recut 76 = .ok (.bipush 6, 2) := by decide +kernel
theorem dX12_recut_78 : decode cX12_recut 78 = .ok (.iload_n 1, 1) := by decide +kernel
theorem dX12_recut_79 : decode cX12_recut 79 = .ok (.imul, 1) := by decide +kernel
theorem dX12_recut_80 : decode cX12_recut 80 = .ok (.iadd, 1) := by decide +kernel
theorem dX12_recut_81 : decode cX12_recut 81 = .ok (.iconst 4, 1) := by decide +kernel
theorem dX12_recut_82 : decode cX12_recut 82 = .ok (.iadd, 1) := by decide +kernel
theorem dX12_recut_83 : decode cX12_recut 83 = .ok (.dup2, 1) := by decide +kernel
theorem dX12_recut_84 : decode cX12_recut 84 = .ok (.iaload, 1) := by decide +kernel
theorem dX12_recut_85 : decode cX12_recut 85 = .ok (.iconst 1, 1) := by decide +kernel
theorem dX12_recut_86 : decode cX12_recut 86 = .ok (.iadd, 1) := by decide +kernel
theorem dX12_recut_87 : decode cX12_recut 87 = .ok (.iastore, 1) := by decide +kernel
theorem dX12_recut_88 : decode cX12_recut 88 = .ok (.return_, 1) := by decide +kernel
theorem dX12_cut_0 : decode cX12_cut 0 = .ok (.aload_n 0, 1) := by decide +kernel
theorem dX12_cut_1 : decode cX12_cut 1 = .ok (.iload_n 1, 1) := by decide +kernel
theorem dX12_cut_2 : decode cX12_cut 2 = .ok (.invokevirtual 80, 3) := by decide +kernel
theorem dX12_cut_5 : decode cX12_cut 5 = .ok (.ifCond .ne 5, 3) := by decide +kernel
theorem dX12_cut_8 : decode cX12_cut 8 = .ok (.iconst (-1), 1) := by decide +kernel
theorem dX12_cut_9 : decode cX12_cut 9 = .ok (.ireturn, 1) := by decide +kernel
theorem dX12_cut_10 : decode cX12_cut 10 = .ok (.iload_n 2, 1) := by decide +kernel
theorem dX12_cut_11 : decode cX12_cut 11 = .ok (.invokestatic 60, 3) := by decide +kernel
theorem dX12_cut_14 : decode cX12_cut 14 = .ok (.ifCond .eq 10, 3) := by decide +kernel
theorem dX12_cut_17 : decode cX12_cut 17 = .ok (.iload_n 3, 1) := by decide +kernel
theorem dX12_cut_18 : decode cX12_cut 18 = .ok (.invokestatic 60, 3) := by decide +kernel
theorem dX12_cut_21 : decode cX12_cut 21 = .ok (.ifCond .ne 6, 3) := by decide +kernel
theorem dX12_cut_24 : decode cX12_cut 24 = .ok (.bipush (-2), 2) := by decide +kernel
theorem dX12_cut_26 : decode cX12_cut 26 = .ok (.ireturn, 1) := by decide +kernel
theorem dX12_cut_27 : decode cX12_cut 27 = .ok (.aload_n 0, 1) := by decide +kernel
theorem dX12_cut_28 : decode cX12_cut 28 = .ok (.getfield 7, 3) := by decide +kernel
theorem dX12_cut_31 : decode cX12_cut 31 = .ok (.bipush 7, 2) := by decide +kernel
theorem dX12_cut_33 : decode cX12_cut 33 = .ok (.iaload, 1) := by decide +kernel
theorem dX12_cut_34 : decode cX12_cut 34 = .ok (.aload_n 0, 1) := by decide +kernel
theorem dX12_cut_35 : decode cX12_cut 35 = .ok (.iload_n 1, 1) := by decide +kernel
theorem dX12_cut_36 : decode cX12_cut 36 = .ok (.invokevirtual 77, 3) := by decide +kernel
theorem dX12_cut_39 : decode cX12_cut 39 = .ok (.iadd, 1) := by decide +kernel
theorem dX12_cut_40 : decode cX12_cut 40 = .ok (.iload_n 2, 1) := by decide +kernel
theorem dX12_cut_41 : decode cX12_cut 41 = .ok (.iload_n 3, 1) := by decide +kernel
theorem dX12_cut_42 : decode cX12_cut 42 = .ok (.invokestatic 64, 3) := by decide +kernel
theorem dX12_cut_45 : decode cX12_cut 45 = .ok (.if_icmp .ge 6, 3) := by decide +kernel
theorem dX12_cut_48 : decode cX12_cut 48 = .ok (.bipush (-5), 2) := by decide +kernel
theorem dX12_cut_50 : decode cX12_cut 50 = .ok (.ireturn, 1) := by decide +kernel
theorem dX12_cut_51 : decode cX12_cut 51 = .ok (.aload_n 0, 1) := by decide +kernel
theorem dX12_cut_52 : decode cX12_cut 52 = .ok (.invokevirtual 53, 3) := by decide +kernel
theorem dX12_cut_55 : decode cX12_cut 55 = .ok (.aload_n 0, 1) := by decide +kernel
theorem dX12_cut_56 : decode cX12_cut 56 = .ok (.iload_n 1, 1) := by decide +kernel
theorem dX12_cut_57 : decode cX12_cut 57 = .ok (.iload_n 2, 1) := by decide +kernel
theorem dX12_cut_58 : decode cX12_cut 58 = .ok (.iload_n 3, 1) := by decide +kernel
theorem dX12_cut_59 : decode cX12_cut 59 = .ok (.invokevirtual 83, 3) := by decide +kernel
theorem dX12_cut_62 : decode cX12_cut 62 = .ok (.aload_n 0, 1) := by decide +kernel
theorem dX12_cut_63 : decode cX12_cut 63 = .ok (.getfield 7, 3) := by decide +kernel
theorem dX12_cut_66 : decode cX12_cut 66 = .ok (.bipush 7, 2) := by decide +kernel
theorem dX12_cut_68 : decode cX12_cut 68 = .ok (.iaload, 1) := by decide +kernel
theorem dX12_cut_69 : decode cX12_cut 69 = .ok (.ireturn, 1) := by decide +kernel
theorem dX12_canBeKey_0 : decode cX12_canBeKey 0 = .ok (.iconst 1, 1) := by decide +kernel
theorem dX12_canBeKey_1 : decode cX12_canBeKey 1 = .ok (.istore_n 2, 1) := by decide +kernel
theorem dX12_canBeKey_2 : decode cX12_canBeKey 2 = .ok (.iconst 0, 1) := by decide +kernel
theorem dX12_canBeKey_3 : decode cX12_canBeKey 3 = .ok (.istore_n 3, 1) := by decide +kernel
theorem dX12_canBeKey_4 : decode cX12_canBeKey 4 = .ok (.iload_n 3, 1) := by decide +kernel
theorem dX12_canBeKey_5 : decode cX12_canBeKey 5 = .ok (.iconst 3, 1) := by decide +kernel
theorem dX12_canBeKey_6 : decode cX12_canBeKey 6 = .ok (.if_icmp .ge 55, 3) := by decide +kernel
theorem dX12_canBeKey_9 : decode cX12_canBeKey 9 = .ok (.iload_n 1, 1) := by decide +kernel
theorem dX12_canBeKey_10 : decode cX12_canBeKey 10 = .ok (.iload_n 3, 1) := by decide +kernel
theorem dX12_canBeKey_11 : decode cX12_canBeKey 11 = .ok (.invokestatic 56, 3) := by decide +kernel
theorem dX12_canBeKey_14 : decode cX12_canBeKey 14 = .ok (.iload_n 1, 1) := by decide +kernel
theorem dX12_canBeKey_15 : decode cX12_canBeKey 15 = .ok (.iload_n 3, 1) := by decide +kernel
theorem dX12_canBeKey_16 : decode cX12_canBeKey 16 = .ok (.iconst 1, 1) := by decide +kernel
theorem dX12_canBeKey_17 : decode cX12_canBeKey 17 = .ok (.iadd, 1) := by decide +kernel
theorem dX12_canBeKey_18 : decode cX12_canBeKey 18 = .ok (.invokestatic 56, 3) := by decide +kernel
theorem dX12_canBeKey_21 : decode cX12_canBeKey 21 = .ok (.isub, 1) := by decide +kernel
theorem dX12_canBeKey_22 : decode cX12_canBeKey 22 = .ok (.istore 4, 2) := by decide +kernel
theorem dX12_canBeKey_24 : decode cX12_canBeKey 24 = .ok (.iload_n 2, 1) := by decide +kernel
theorem dX12_canBeKey_25 : decode cX12_canBeKey 25 = .ok (.ifCond .eq 28, 3) := by decide +kernel
theorem dX12_canBeKey_28 : decode cX12_canBeKey 28 = .ok (.iload 4, 2) := by decide +kernel
theorem dX12_canBeKey_30 : decode cX12_canBeKey 30 = .ok (.aload_n 0, 1) := by decide +kernel
theorem dX12_canBeKey_31 : decode cX12_canBeKey 31 = .ok (.getfield 7, 3) := by decide +kernel
theorem dX12_canBeKey_34 : decode cX12_canBeKey 34 = .ok (.iconst 0, 1) := by decide +kernel
theorem dX12_canBeKey_35 : decode cX12_canBeKey 35 = .ok (.iaload, 1) := by decide +kernel
theorem dX12_canBeKey_36 : decode cX12_canBeKey 36 = .ok (.ineg, 1) := by decide +kernel
theorem dX12_canBeKey_37 : decode cX12_canBeKey 37 = .ok (.aload_n 0, 1) := by decide +kernel
theorem dX12_canBeKey_38 : decode cX12_canBeKey 38 = .ok (.getfield 7, 3) := by decide +kernel
theorem dX12_canBeKey_41 : decode cX12_canBeKey 41 = .ok (.iconst 0, 1) := by decide +kernel
theorem dX12_canBeKey_42 : decode cX12_canBeKey 42 = .ok (.iaload, 1) := by decide +kernel
theorem dX12_canBeKey_43 : decode cX12_canBeKey 43 = .ok (.invokestatic 41, 3) := by decide +kernel
theorem dX12_canBeKey_46 : decode cX12_canBeKey 46 = .ok (.ifCond .eq 7, 3) := by decide +kernel
theorem dX12_canBeKey_49 : decode cX12_canBeKey 49 = .ok (.iconst 1, 1) := by decide +kernel
theorem dX12_canBeKey_50 : decode cX12_canBeKey 50 = .ok (.goto 4, 3) := by decide +kernel
theorem dX12_canBeKey_53 : decode cX12_canBeKey 53 = .ok (.iconst 0, 1) := by decide +kernel
theorem dX12_canBeKey_54 : decode cX12_canBeKey 54 = .ok (.istore_n 2, 1) := by decide +kernel
theorem dX12_canBeKey_55 : decode cX12_canBeKey 55 = .ok (.iinc 3 1, 3) := by decide +kernel
theorem dX12_canBeKey_58 : decode cX12_canBeKey 58 = .ok (.goto (-54), 3) := by decide +kernel
theorem dX12_canBeKey_61 : decode cX12_canBeKey 61 = .ok (.iload_n 2, 1) := by decide +kernel
theorem dX12_canBeKey_62 : decode cX12_canBeKey 62 = .ok (.ireturn, 1) := by decide +kernel
theorem dX12_depths_0 : decode cX12_depths 0 = .ok (.iload_n 0, 1) := by decide +kernel
theorem dX12_depths_1 : decode cX12_depths 1 = .ok (.iconst 0, 1) := by decide +kernel
theorem dX12_depths_2 : decode cX12_depths 2 = .ok (.invokestatic 56, 3) := by decide +kernel
theorem dX12_depths_5 : decode cX12_depths 5 = .ok (.iload_n 0, 1) := by decide +kernel
theorem dX12_depths_6 : decode cX12_depths 6 = .ok (.iconst 1, 1) := by decide +kernel
theorem dX12_depths_7 : decode cX12_depths 7 = .ok (.invokestatic 56, 3) := by decide +kernel
theorem dX12_depths_10 : decode cX12_depths 10 = .ok (.iadd, 1) := by decide +kernel
theorem dX12_depths_11 : decode cX12_depths 11 = .ok (.iload_n 0, 1) := by decide +kernel
theorem dX12_depths_12 : decode cX12_depths 12 = .ok (.iconst 2, 1) := by decide +kernel
theorem dX12_depths_13 : decode cX12_depths 13 = .ok (.invokestatic 56, 3) := by decide +kernel
theorem dX12_depths_16 : decode cX12_depths 16 = .ok (.iadd, 1) := by decide +kernel
theorem dX12_depths_17 : decode cX12_depths 17 = .ok (.iload_n 0, 1) := by decide +kernel
theorem dX12_depths_18 : decode cX12_depths 18 = .ok (.iconst 3, 1) := by decide +kernel
theorem dX12_depths_19 : decode cX12_depths 19 = .ok (.invokestatic 56, 3) := by decide +kernel
theorem dX12_depths_22 : decode cX12_depths 22 = .ok (.iadd, 1) := by decide +kernel
theorem dX12_depths_23 : decode cX12_depths 23 = .ok (.ireturn, 1) := by decide +kernel
theorem dX12_isKey_0 : decode cX12_isKey 0 = .ok (.iload_n 1, 1) := by decide +kernel
theorem dX12_isKey_1 : decode cX12_isKey 1 = .ok (.iconst 0, 1) := by decide +kernel
theorem dX12_isKey_2 : decode cX12_isKey 2 = .ok (.aload_n 0, 1) := by decide +kernel
theorem dX12_isKey_3 : decode cX12_isKey 3 = .ok (.getfield 7, 3) := by decide +kernel
theorem dX12_isKey_6 : decode cX12_isKey 6 = .ok (.iconst 5, 1) := by decide +kernel
theorem dX12_isKey_7 : decode cX12_isKey 7 = .ok (.iaload, 1) := by decide +kernel
theorem dX12_isKey_8 : decode cX12_isKey 8 = .ok (.iconst 1, 1) := by decide +kernel
theorem dX12_isKey_9 : decode cX12_isKey 9 = .ok (.isub, 1) := by decide +kernel
theorem dX12_isKey_10 : decode cX12_isKey 10 = .ok (.invokestatic 41, 3) := by decide +kernel
theorem dX12_isKey_13 : decode cX12_isKey 13 = .ok (.ireturn, 1) := by decide +kernel
theorem dX12_cutsOf_0 : decode cX12_cutsOf 0 = .ok (.aload_n 0, 1) := by decide +kernel
theorem dX12_cutsOf_1 : decode cX12_cutsOf 1 = .ok (.getfield 7, 3) := by decide +kernel
theorem dX12_cutsOf_4 : decode cX12_cutsOf 4 = .ok (.bipush 80, 2) := by decide +kernel
theorem dX12_cutsOf_6 : decode cX12_cutsOf 6 = .ok (.iconst 4, 1) := by decide +kernel
theorem dX12_cutsOf_7 : decode cX12_cutsOf 7 = .ok (.iload_n 1, 1) := by decide +kernel
theorem dX12_cutsOf_8 : decode cX12_cutsOf 8 = .ok (.imul, 1) := by decide +kernel
theorem dX12_cutsOf_9 : decode cX12_cutsOf 9 = .ok (.iadd, 1) := by decide +kernel
theorem dX12_cutsOf_10 : decode cX12_cutsOf 10 = .ok (.iaload, 1) := by decide +kernel
theorem dX12_cutsOf_11 : decode cX12_cutsOf 11 = .ok (.ireturn, 1) := by decide +kernel
theorem dX12_whereIs_0 : decode cX12_whereIs 0 = .ok (.aload_n 0, 1) := by decide +kernel
theorem dX12_whereIs_1 : decode cX12_whereIs 1 = .ok (.getfield 7, 3) := by decide +kernel
theorem dX12_whereIs_4 : decode cX12_whereIs 4 = .ok (.bipush 80, 2) := by decide +kernel
theorem dX12_whereIs_6 : decode cX12_whereIs 6 = .ok (.iconst 4, 1) := by decide +kernel
theorem dX12_whereIs_7 : decode cX12_whereIs 7 = .ok (.iload_n 1, 1) := by decide +kernel
theorem dX12_whereIs_8 : decode cX12_whereIs 8 = .ok (.imul, 1) := by decide +kernel
theorem dX12_whereIs_9 : decode cX12_whereIs 9 = .ok (.iadd, 1) := by decide +kernel
theorem dX12_whereIs_10 : decode cX12_whereIs 10 = .ok (.iconst 2, 1) := by decide +kernel
theorem dX12_whereIs_11 : decode cX12_whereIs 11 = .ok (.iadd, 1) := by decide +kernel
theorem dX12_whereIs_12 : decode cX12_whereIs 12 = .ok (.iaload, 1) := by decide +kernel
theorem dX12_whereIs_13 : decode cX12_whereIs 13 = .ok (.ireturn, 1) := by decide +kernel
theorem dX12_keyWeight_0 : decode cX12_keyWeight 0 = .ok (.aload_n 0, 1) := by decide +kernel
theorem dX12_keyWeight_1 : decode cX12_keyWeight 1 = .ok (.iload_n 1, 1) := by decide +kernel
theorem dX12_keyWeight_2 : decode cX12_keyWeight 2 = .ok (.invokevirtual 87, 3) := by decide +kernel
theorem dX12_keyWeight_5 : decode cX12_keyWeight 5 = .ok (.bipush 9, 2) := by decide +kernel
theorem dX12_keyWeight_7 : decode cX12_keyWeight 7 = .ok (.if_icmp .ne 7, 3) := by decide +kernel
theorem dX12_keyWeight_10 : decode cX12_keyWeight 10 = .ok (.iconst 0, 1) := by decide +kernel
theorem dX12_keyWeight_11 : decode cX12_keyWeight 11 = .ok (.goto 25, 3) := by decide +kernel
theorem dX12_keyWeight_14 : decode cX12_keyWeight 14 = .ok (.aload_n 0, 1) := by decide +kernel
theorem dX12_keyWeight_15 : decode cX12_keyWeight 15 = .ok (.getfield 7, 3) := by decide +kernel
theorem dX12_keyWeight_18 : decode cX12_keyWeight 18 = .ok (.bipush 80, 2) := by decide +kernel
theorem dX12_keyWeight_20 : decode cX12_keyWeight 20 = .ok (.iconst 4, 1) := by decide +kernel
theorem dX12_keyWeight_21 : decode cX12_keyWeight 21 = .ok (.iload_n 1, 1) := by decide +kernel
theorem dX12_keyWeight_22 : decode cX12_keyWeight 22 = .ok (.imul, 1) := by decide +kernel
theorem dX12_keyWeight_23 : decode cX12_keyWeight 23 = .ok (.iadd, 1) := by decide +kernel
theorem dX12_keyWeight_24 : decode cX12_keyWeight 24 = .ok (.iconst 1, 1) := by decide +kernel
theorem dX12_keyWeight_25 : decode cX12_keyWeight 25 = .ok (.iadd, 1) := by decide +kernel
theorem dX12_keyWeight_26 : decode cX12_keyWeight 26 = .ok (.iaload, 1) := by decide +kernel
theorem dX12_keyWeight_27 : decode cX12_keyWeight 27 = .ok (.aload_n 0, 1) := by decide +kernel
theorem dX12_keyWeight_28 : decode cX12_keyWeight 28 = .ok (.iload_n 1, 1) := by decide +kernel
theorem dX12_keyWeight_29 : decode cX12_keyWeight 29 = .ok (.invokevirtual 90, 3) := by decide +kernel
theorem dX12_keyWeight_32 : decode cX12_keyWeight 32 = .ok (.invokestatic 93, 3) := by decide +kernel
theorem dX12_keyWeight_35 : decode cX12_keyWeight 35 = .ok (.isub, 1) := by decide +kernel
theorem dX12_keyWeight_36 : decode cX12_keyWeight 36 = .ok (.ireturn, 1) := by decide +kernel
theorem dX12_key_0 : decode cX12_key 0 = .ok (.iload_n 1, 1) := by decide +kernel
theorem dX12_key_1 : decode cX12_key 1 = .ok (.invokestatic 60, 3) := by decide +kernel
theorem dX12_key_4 : decode cX12_key 4 = .ok (.ifCond .eq 13, 3) := by decide +kernel
theorem dX12_key_7 : decode cX12_key 7 = .ok (.iload_n 2, 1) := by decide +kernel
theorem dX12_key_8 : decode cX12_key 8 = .ok (.iconst 0, 1) := by decide +kernel
theorem dX12_key_9 : decode cX12_key 9 = .ok (.bipush 7, 2) := by decide +kernel
theorem dX12_key_11 : decode cX12_key 11 = .ok (.invokestatic 41, 3) := by decide +kernel
theorem dX12_key_14 : decode cX12_key 14 = .ok (.ifCond .ne 6, 3) := by decide +kernel
theorem dX12_key_17 : decode cX12_key 17 = .ok (.bipush (-2), 2) := by decide +kernel
theorem dX12_key_19 : decode cX12_key 19 = .ok (.ireturn, 1) := by decide +kernel
theorem dX12_key_20 : decode cX12_key 20 = .ok (.aload_n 0, 1) := by decide +kernel
theorem dX12_key_21 : decode cX12_key 21 = .ok (.getfield 7, 3) := by decide +kernel
theorem dX12_key_24 : decode cX12_key 24 = .ok (.iconst 5, 1) := by decide +kernel
theorem dX12_key_25 : decode cX12_key 25 = .ok (.iaload, 1) := by decide +kernel
theorem dX12_key_26 : decode cX12_key 26 = .ok (.bipush 16, 2) := by decide +kernel
theorem dX12_key_28 : decode cX12_key 28 = .ok (.if_icmp .ne 6, 3) := by decide +kernel
theorem dX12_key_31 : decode cX12_key 31 = .ok (.bipush (-4), 2) := by decide +kernel
theorem dX12_key_33 : decode cX12_key 33 = .ok (.ireturn, 1) := by decide +kernel
theorem dX12_key_34 : decode cX12_key 34 = .ok (.aload_n 0, 1) := by decide +kernel
theorem dX12_key_35 : decode cX12_key 35 = .ok (.iload_n 1, 1) := by decide +kernel
theorem dX12_key_36 : decode cX12_key 36 = .ok (.invokevirtual 96, 3) := by decide +kernel
theorem dX12_key_39 : decode cX12_key 39 = .ok (.ifCond .ne 6, 3) := by decide +kernel
theorem dX12_key_42 : decode cX12_key 42 = .ok (.bipush (-5), 2) := by decide +kernel
theorem dX12_key_44 : decode cX12_key 44 = .ok (.ireturn, 1) := by decide +kernel
theorem dX12_key_45 : decode cX12_key 45 = .ok (.aload_n 0, 1) := by decide +kernel
theorem dX12_key_46 : decode cX12_key 46 = .ok (.invokevirtual 53, 3) := by decide +kernel
theorem dX12_key_49 : decode cX12_key 49 = .ok (.bipush 80, 2) := by decide +kernel
theorem dX12_key_51 : decode cX12_key 51 = .ok (.iconst 4, 1) := by decide +kernel
theorem dX12_key_52 : decode cX12_key 52 = .ok (.aload_n 0, 1) := by decide +kernel
theorem dX12_key_53 : decode cX12_key 53 = .ok (.getfield 7, 3) := by decide +kernel
theorem dX12_key_56 : decode cX12_key 56 = .ok (.iconst 5, 1) := by decide +kernel
theorem dX12_key_57 : decode cX12_key 57 = .ok (.iaload, 1) := by decide +kernel
theorem dX12_key_58 : decode cX12_key 58 = .ok (.imul, 1) := by decide +kernel
theorem dX12_key_59 : decode cX12_key 59 = .ok (.iadd, 1) := by decide +kernel
theorem dX12_key_60 : decode cX12_key 60 = .ok (.istore_n 3, 1) := by decide +kernel
theorem dX12_key_61 : decode cX12_key 61 = .ok (.aload_n 0, 1) := by decide +kernel
theorem dX12_key_62 : decode cX12_key 62 = .ok (.getfield 7, 3) := by decide +kernel
theorem dX12_key_65 : decode cX12_key 65 = .ok (.iload_n 3, 1) := by decide +kernel
theorem dX12_key_66 : decode cX12_key 66 = .ok (.iload_n 1, 1) := by decide +kernel
theorem dX12_key_67 : decode cX12_key 67 = .ok (.iastore, 1) := by decide +kernel
theorem dX12_key_68 : decode cX12_key 68 = .ok (.aload_n 0, 1) := by decide +kernel
theorem dX12_key_69 : decode cX12_key 69 = .ok (.getfield 7, 3) := by decide +kernel
theorem dX12_key_72 : decode cX12_key 72 = .ok (.iload_n 3, 1) := by decide +kernel
theorem dX12_key_73 : decode cX12_key 73 = .ok (.iconst 1, 1) := by decide +kernel
theorem dX12_key_74 : decode cX12_key 74 = .ok (.iadd, 1) := by decide +kernel
theorem dX12_key_75 : decode cX12_key 75 = .ok (.aload_n 0, 1) := by decide +kernel
theorem dX12_key_76 : decode cX12_key 76 = .ok (.getfield 7, 3) := by decide +kernel
theorem dX12_key_79 : decode cX12_key 79 = .ok (.iconst 2, 1) := by decide +kernel
theorem dX12_key_80 : decode cX12_key 80 = .ok (.iaload, 1) := by decide +kernel
theorem dX12_key_81 : decode cX12_key 81 = .ok (.iastore, 1) := by decide +kernel
theorem dX12_key_82 : decode cX12_key 82 = .ok (.aload_n 0, 1) := by decide +kernel
theorem dX12_key_83 : decode cX12_key 83 = .ok (.getfield 7, 3) := by decide +kernel
theorem dX12_key_86 : decode cX12_key 86 = .ok (.iload_n 3, 1) := by decide +kernel
theorem dX12_key_87 : decode cX12_key 87 = .ok (.iconst 2, 1) := by decide +kernel
theorem dX12_key_88 : decode cX12_key 88 = .ok (.iadd, 1) := by decide +kernel
theorem dX12_key_89 : decode cX12_key 89 = .ok (.iload_n 2, 1) := by decide +kernel
theorem dX12_key_90 : decode cX12_key 90 = .ok (.iastore, 1) := by decide +kernel
theorem dX12_key_91 : decode cX12_key 91 = .ok (.aload_n 0, 1) := by decide +kernel
theorem dX12_key_92 : decode cX12_key 92 = .ok (.getfield 7, 3) := by decide +kernel
theorem dX12_key_95 : decode cX12_key 95 = .ok (.bipush 6, 2) := by decide +kernel
theorem dX12_key_97 : decode cX12_key 97 = .ok (.dup2, 1) := by decide +kernel
theorem dX12_key_98 : decode cX12_key 98 = .ok (.iaload, 1) := by decide +kernel
theorem dX12_key_99 : decode cX12_key 99 = .ok (.aload_n 0, 1) := by decide +kernel
theorem dX12_key_100 : decode cX12_key 100 = .ok (.getfield 7, 3) := by decide +kernel
theorem dX12_key_103 : decode cX12_key 103 = .ok (.iconst 2, 1) := by decide +kernel
theorem dX12_key_104 : decode cX12_key 104 = .ok (.iaload, 1) := by decide +kernel
theorem dX12_key_105 : decode cX12_key 105 = .ok (.iadd, 1) := by decide +kernel
theorem dX12_key_106 : decode cX12_key 106 = .ok (.iastore, 1) := by decide +kernel
theorem dX12_key_107 : decode cX12_key 107 = .ok (.aload_n 0, 1) := by decide +kernel
theorem dX12_key_108 : decode cX12_key 108 = .ok (.getfield 7, 3) := by decide +kernel
theorem dX12_key_111 : decode cX12_key 111 = .ok (.bipush 7, 2) := by decide +kernel
theorem dX12_key_113 : decode cX12_key 113 = .ok (.dup2, 1) := by decide +kernel
theorem dX12_key_114 : decode cX12_key 114 = .ok (.iaload, 1) := by decide +kernel
theorem dX12_key_115 : decode cX12_key 115 = .ok (.iload_n 1, 1) := by decide +kernel
theorem dX12_key_116 : decode cX12_key 116 = .ok (.invokestatic 93, 3) := by decide +kernel
theorem dX12_key_119 : decode cX12_key 119 = .ok (.iadd, 1) := by decide +kernel
theorem dX12_key_120 : decode cX12_key 120 = .ok (.iastore, 1) := by decide +kernel
theorem dX12_key_121 : decode cX12_key 121 = .ok (.aload_n 0, 1) := by decide +kernel
theorem dX12_key_122 : decode cX12_key 122 = .ok (.getfield 7, 3) := by decide +kernel
theorem dX12_key_125 : decode cX12_key 125 = .ok (.iconst 5, 1) := by decide +kernel
theorem dX12_key_126 : decode cX12_key 126 = .ok (.dup2, 1) := by decide +kernel
theorem dX12_key_127 : decode cX12_key 127 = .ok (.iaload, 1) := by decide +kernel
theorem dX12_key_128 : decode cX12_key 128 = .ok (.iconst 1, 1) := by decide +kernel
theorem dX12_key_129 : decode cX12_key 129 = .ok (.iadd, 1) := by decide +kernel
theorem dX12_key_130 : decode cX12_key 130 = .ok (.iastore, 1) := by decide +kernel
theorem dX12_key_131 : decode cX12_key 131 = .ok (.aload_n 0, 1) := by decide +kernel
theorem dX12_key_132 : decode cX12_key 132 = .ok (.getfield 7, 3) := by decide +kernel
theorem dX12_key_135 : decode cX12_key 135 = .ok (.iconst 5, 1) := by decide +kernel
theorem dX12_key_136 : decode cX12_key 136 = .ok (.iaload, 1) := by decide +kernel
theorem dX12_key_137 : decode cX12_key 137 = .ok (.iconst 1, 1) := by decide +kernel
theorem dX12_key_138 : decode cX12_key 138 = .ok (.isub, 1) := by decide +kernel
theorem dX12_key_139 : decode cX12_key 139 = .ok (.ireturn, 1) := by decide +kernel
theorem dX12_melt_0 : decode cX12_melt 0 = .ok (.aload_n 0, 1) := by decide +kernel
theorem dX12_melt_1 : decode cX12_melt 1 = .ok (.iload_n 1, 1) := by decide +kernel
theorem dX12_melt_2 : decode cX12_melt 2 = .ok (.invokevirtual 99, 3) := by decide +kernel
theorem dX12_melt_5 : decode cX12_melt 5 = .ok (.ifCond .ne 5, 3) := by decide +kernel
theorem dX12_melt_8 : decode cX12_melt 8 = .ok (.iconst (-1), 1) := by decide +kernel
theorem dX12_melt_9 : decode cX12_melt 9 = .ok (.ireturn, 1) := by decide +kernel
theorem dX12_melt_10 : decode cX12_melt 10 = .ok (.aload_n 0, 1) := by decide +kernel
theorem dX12_melt_11 : decode cX12_melt 11 = .ok (.iload_n 1, 1) := by decide +kernel
theorem dX12_melt_12 : decode cX12_melt 12 = .ok (.invokevirtual 87, 3) := by decide +kernel
theorem dX12_melt_15 : decode cX12_melt 15 = .ok (.bipush 9, 2) := by decide +kernel
theorem dX12_melt_17 : decode cX12_melt 17 = .ok (.if_icmp .ne 6, 3) := by decide +kernel
theorem dX12_melt_20 : decode cX12_melt 20 = .ok (.bipush (-5), 2) := by decide +kernel
theorem dX12_melt_22 : decode cX12_melt 22 = .ok (.ireturn, 1) := by decide +kernel
theorem dX12_melt_23 : decode cX12_melt 23 = .ok (.aload_n 0, 1) := by decide +kernel
theorem dX12_melt_24 : decode cX12_melt 24 = .ok (.invokevirtual 53, 3) := by decide +kernel
theorem dX12_melt_27 : decode cX12_melt 27 = .ok (.aload_n 0, 1) := by decide +kernel
theorem dX12_melt_28 : decode cX12_melt 28 = .ok (.iload_n 1, 1) := by decide +kernel
theorem dX12_melt_29 : decode cX12_melt 29 = .ok (.invokevirtual 102, 3) := by decide +kernel
theorem dX12_melt_32 : decode cX12_melt 32 = .ok (.istore_n 2, 1) := by decide +kernel
theorem dX12_melt_33 : decode cX12_melt 33 = .ok (.aload_n 0, 1) := by decide +kernel
theorem dX12_melt_34 : decode cX12_melt 34 = .ok (.getfield 7, 3) := by decide +kernel
theorem dX12_melt_37 : decode cX12_melt 37 = .ok (.bipush 8, 2) := by decide +kernel
theorem dX12_melt_39 : decode cX12_melt 39 = .ok (.dup2, 1) := by decide +kernel
theorem dX12_melt_40 : decode cX12_melt 40 = .ok (.iaload, 1) := by decide +kernel
theorem dX12_melt_41 : decode cX12_melt 41 = .ok (.aload_n 0, 1) := by decide +kernel
theorem dX12_melt_42 : decode cX12_melt 42 = .ok (.iload_n 2, 1) := by decide +kernel
theorem dX12_melt_43 : decode cX12_melt 43 = .ok (.invokevirtual 74, 3) := by decide +kernel
theorem dX12_melt_46 : decode cX12_melt 46 = .ok (.iadd, 1) := by decide +kernel
theorem dX12_melt_47 : decode cX12_melt 47 = .ok (.iastore, 1) := by decide +kernel
theorem dX12_melt_48 : decode cX12_melt 48 = .ok (.aload_n 0, 1) := by decide +kernel
theorem dX12_melt_49 : decode cX12_melt 49 = .ok (.getfield 7, 3) := by decide +kernel
theorem dX12_melt_52 : decode cX12_melt 52 = .ok (.bipush 7, 2) := by decide +kernel
theorem dX12_melt_54 : decode cX12_melt 54 = .ok (.dup2, 1) := by decide +kernel
theorem dX12_melt_55 : decode cX12_melt 55 = .ok (.iaload, 1) := by decide +kernel
theorem dX12_melt_56 : decode cX12_melt 56 = .ok (.iload_n 2, 1) := by decide +kernel
theorem dX12_melt_57 : decode cX12_melt 57 = .ok (.aload_n 0, 1) := by decide +kernel
theorem dX12_melt_58 : decode cX12_melt 58 = .ok (.iload_n 2, 1) := by decide +kernel
theorem dX12_melt_59 : decode cX12_melt 59 = .ok (.invokevirtual 74, 3) := by decide +kernel
theorem dX12_melt_62 : decode cX12_melt 62 = .ok (.isub, 1) := by decide +kernel
theorem dX12_melt_63 : decode cX12_melt 63 = .ok (.iadd, 1) := by decide +kernel
theorem dX12_melt_64 : decode cX12_melt 64 = .ok (.iastore, 1) := by decide +kernel
theorem dX12_melt_65 : decode cX12_melt 65 = .ok (.aload_n 0, 1) := by decide +kernel
theorem dX12_melt_66 : decode cX12_melt 66 = .ok (.getfield 7, 3) := by decide +kernel
theorem dX12_melt_69 : decode cX12_melt 69 = .ok (.bipush 80, 2) := by decide +kernel
theorem dX12_melt_71 : decode cX12_melt 71 = .ok (.iconst 4, 1) := by decide +kernel
theorem dX12_melt_72 : decode cX12_melt 72 = .ok (.iload_n 1, 1) := by decide +kernel
theorem dX12_melt_73 : decode cX12_melt 73 = .ok (.imul, 1) := by decide +kernel
theorem dX12_melt_74 : decode cX12_melt 74 = .ok (.iadd, 1) := by decide +kernel
theorem dX12_melt_75 : decode cX12_melt 75 = .ok (.iconst 2, 1) := by decide +kernel
theorem dX12_melt_76 : decode cX12_melt 76 = .ok (.iadd, 1) := by decide +kernel
theorem dX12_melt_77 : decode cX12_melt 77 = .ok (.bipush 9, 2) := by decide +kernel
theorem dX12_melt_79 : decode cX12_melt 79 = .ok (.iastore, 1) := by decide +kernel
theorem dX12_melt_80 : decode cX12_melt 80 = .ok (.aload_n 0, 1) := by decide +kernel
theorem dX12_melt_81 : decode cX12_melt 81 = .ok (.getfield 7, 3) := by decide +kernel
theorem dX12_melt_84 : decode cX12_melt 84 = .ok (.bipush 7, 2) := by decide +kernel
theorem dX12_melt_86 : decode cX12_melt 86 = .ok (.iaload, 1) := by decide +kernel
theorem dX12_melt_87 : decode cX12_melt 87 = .ok (.ireturn, 1) := by decide +kernel
theorem dX12_keysIn_0 : decode cX12_keysIn 0 = .ok (.iconst 0, 1) := by decide +kernel
theorem dX12_keysIn_1 : decode cX12_keysIn 1 = .ok (.istore_n 2, 1) := by decide +kernel
theorem dX12_keysIn_2 : decode cX12_keysIn 2 = .ok (.iconst 0, 1) := by decide +kernel
theorem dX12_keysIn_3 : decode cX12_keysIn 3 = .ok (.istore_n 3, 1) := by decide +kernel
theorem dX12_keysIn_4 : decode cX12_keysIn 4 = .ok (.iload_n 3, 1) := by decide +kernel
theorem dX12_keysIn_5 : decode cX12_keysIn 5 = .ok (.aload_n 0, 1) := by decide +kernel
theorem dX12_keysIn_6 : decode cX12_keysIn 6 = .ok (.getfield 7, 3) := by decide +kernel
theorem dX12_keysIn_9 : decode cX12_keysIn 9 = .ok (.iconst 5, 1) := by decide +kernel
theorem dX12_keysIn_10 : decode cX12_keysIn 10 = .ok (.iaload, 1) := by decide +kernel
theorem dX12_keysIn_11 : decode cX12_keysIn 11 = .ok (.if_icmp .ge 28, 3) := by decide +kernel
theorem dX12_keysIn_14 : decode cX12_keysIn 14 = .ok (.iload_n 2, 1) := by decide +kernel
theorem dX12_keysIn_15 : decode cX12_keysIn 15 = .ok (.aload_n 0, 1) := by decide +kernel
theorem dX12_keysIn_16 : decode cX12_keysIn 16 = .ok (.iload_n 3, 1) := by decide +kernel
theorem dX12_keysIn_17 : decode cX12_keysIn 17 = .ok (.invokevirtual 87, 3) := by decide +kernel
theorem dX12_keysIn_20 : decode cX12_keysIn 20 = .ok (.iload_n 1, 1) := by decide +kernel
theorem dX12_keysIn_21 : decode cX12_keysIn 21 = .ok (.if_icmp .ne 9, 3) := by decide +kernel
theorem dX12_keysIn_24 : decode cX12_keysIn 24 = .ok (.iconst 1, 1) := by decide +kernel
theorem dX12_keysIn_25 : decode cX12_keysIn 25 = .ok (.iload_n 3, 1) := by decide +kernel
theorem dX12_keysIn_26 : decode cX12_keysIn 26 = .ok (.ishl, 1) := by decide +kernel
theorem dX12_keysIn_27 : decode cX12_keysIn 27 = .ok (.goto 4, 3) := by decide +kernel
theorem dX12_keysIn_30 : decode cX12_keysIn 30 = .ok (.iconst 0, 1) := by decide +kernel
theorem dX12_keysIn_31 : decode cX12_keysIn 31 = .ok (.ior, 1) := by decide +kernel
theorem dX12_keysIn_32 : decode cX12_keysIn 32 = .ok (.istore_n 2, 1) := by decide +kernel
theorem dX12_keysIn_33 : decode cX12_keysIn 33 = .ok (.iinc 3 1, 3) := by decide +kernel
theorem dX12_keysIn_36 : decode cX12_keysIn 36 = .ok (.goto (-32), 3) := by decide +kernel
theorem dX12_keysIn_39 : decode cX12_keysIn 39 = .ok (.iload_n 2, 1) := by decide +kernel
theorem dX12_keysIn_40 : decode cX12_keysIn 40 = .ok (.ireturn, 1) := by decide +kernel
theorem dX12_bring_0 : decode cX12_bring 0 = .ok (.aload_n 0, 1) := by decide +kernel
theorem dX12_bring_1 : decode cX12_bring 1 = .ok (.iload_n 1, 1) := by decide +kernel
theorem dX12_bring_2 : decode cX12_bring 2 = .ok (.invokevirtual 99, 3) := by decide +kernel
theorem dX12_bring_5 : decode cX12_bring 5 = .ok (.ifCond .ne 5, 3) := by decide +kernel
theorem dX12_bring_8 : decode cX12_bring 8 = .ok (.iconst (-1), 1) := by decide +kernel
theorem dX12_bring_9 : decode cX12_bring 9 = .ok (.ireturn, 1) := by decide +kernel
theorem dX12_bring_10 : decode cX12_bring 10 = .ok (.aload_n 0, 1) := by decide +kernel
theorem dX12_bring_11 : decode cX12_bring 11 = .ok (.iload_n 1, 1) := by decide +kernel
theorem dX12_bring_12 : decode cX12_bring 12 = .ok (.invokevirtual 87, 3) := by decide +kernel
theorem dX12_bring_15 : decode cX12_bring 15 = .ok (.iload_n 2, 1) := by decide +kernel
theorem dX12_bring_16 : decode cX12_bring 16 = .ok (.if_icmp .eq 6, 3) := by decide +kernel
theorem dX12_bring_19 : decode cX12_bring 19 = .ok (.bipush (-5), 2) := by decide +kernel
theorem dX12_bring_21 : decode cX12_bring 21 = .ok (.ireturn, 1) := by decide +kernel
theorem dX12_bring_22 : decode cX12_bring 22 = .ok (.aload_n 0, 1) := by decide +kernel
theorem dX12_bring_23 : decode cX12_bring 23 = .ok (.invokevirtual 53, 3) := by decide +kernel
theorem dX12_bring_26 : decode cX12_bring 26 = .ok (.aload_n 0, 1) := by decide +kernel
theorem dX12_bring_27 : decode cX12_bring 27 = .ok (.getfield 7, 3) := by decide +kernel
theorem dX12_bring_30 : decode cX12_bring 30 = .ok (.bipush 80, 2) := by decide +kernel
theorem dX12_bring_32 : decode cX12_bring 32 = .ok (.iconst 4, 1) := by decide +kernel
theorem dX12_bring_33 : decode cX12_bring 33 = .ok (.iload_n 1, 1) := by decide +kernel
theorem dX12_bring_34 : decode cX12_bring 34 = .ok (.imul, 1) := by decide +kernel
theorem dX12_bring_35 : decode cX12_bring 35 = .ok (.iadd, 1) := by decide +kernel
theorem dX12_bring_36 : decode cX12_bring 36 = .ok (.iconst 2, 1) := by decide +kernel
theorem dX12_bring_37 : decode cX12_bring 37 = .ok (.iadd, 1) := by decide +kernel
theorem dX12_bring_38 : decode cX12_bring 38 = .ok (.iload_n 3, 1) := by decide +kernel
theorem dX12_bring_39 : decode cX12_bring 39 = .ok (.iastore, 1) := by decide +kernel
theorem dX12_bring_40 : decode cX12_bring 40 = .ok (.aload_n 0, 1) := by decide +kernel
theorem dX12_bring_41 : decode cX12_bring 41 = .ok (.bipush 8, 2) := by decide +kernel
theorem dX12_bring_43 : decode cX12_bring 43 = .ok (.invokevirtual 105, 3) := by decide +kernel
theorem dX12_bring_46 : decode cX12_bring 46 = .ok (.ireturn, 1) := by decide +kernel
theorem dX12_take_0 : decode cX12_take 0 = .ok (.aload_n 0, 1) := by decide +kernel
theorem dX12_take_1 : decode cX12_take 1 = .ok (.iload_n 1, 1) := by decide +kernel
theorem dX12_take_2 : decode cX12_take 2 = .ok (.aload_n 0, 1) := by decide +kernel
theorem dX12_take_3 : decode cX12_take 3 = .ok (.getfield 7, 3) := by decide +kernel
theorem dX12_take_6 : decode cX12_take 6 = .ok (.iconst 3, 1) := by decide +kernel
theorem dX12_take_7 : decode cX12_take 7 = .ok (.iaload, 1) := by decide +kernel
theorem dX12_take_8 : decode cX12_take 8 = .ok (.bipush 8, 2) := by decide +kernel
theorem dX12_take_10 : decode cX12_take 10 = .ok (.invokevirtual 108, 3) := by decide +kernel
theorem dX12_take_13 : decode cX12_take 13 = .ok (.ireturn, 1) := by decide +kernel
theorem dX12_putDown_0 : decode cX12_putDown 0 = .ok (.aload_n 0, 1) := by decide +kernel
theorem dX12_putDown_1 : decode cX12_putDown 1 = .ok (.iload_n 1, 1) := by decide +kernel
theorem dX12_putDown_2 : decode cX12_putDown 2 = .ok (.bipush 8, 2) := by decide +kernel
theorem dX12_putDown_4 : decode cX12_putDown 4 = .ok (.aload_n 0, 1) := by decide +kernel
theorem dX12_putDown_5 : decode cX12_putDown 5 = .ok (.getfield 7, 3) := by decide +kernel
theorem dX12_putDown_8 : decode cX12_putDown 8 = .ok (.iconst 3, 1) := by decide +kernel
theorem dX12_putDown_9 : decode cX12_putDown 9 = .ok (.iaload, 1) := by decide +kernel
theorem dX12_putDown_10 : decode cX12_putDown 10 = .ok (.invokevirtual 108, 3) := by decide +kernel
theorem dX12_putDown_13 : decode cX12_putDown 13 = .ok (.ireturn, 1) := by decide +kernel
theorem dX12_fits_0 : decode cX12_fits 0 = .ok (.iconst 1, 1) := by decide +kernel
theorem dX12_fits_1 : decode cX12_fits 1 = .ok (.istore_n 3, 1) := by decide +kernel
theorem dX12_fits_2 : decode cX12_fits 2 = .ok (.iconst 0, 1) := by decide +kernel
theorem dX12_fits_3 : decode cX12_fits 3 = .ok (.istore 4, 2) := by decide +kernel
theorem dX12_fits_5 : decode cX12_fits 5 = .ok (.iload 4, 2) := by decide +kernel
theorem dX12_fits_7 : decode cX12_fits 7 = .ok (.iconst 4, 1) := by decide +kernel
theorem dX12_fits_8 : decode cX12_fits 8 = .ok (.if_icmp .ge 59, 3) := by decide +kernel
theorem dX12_fits_11 : decode cX12_fits 11 = .ok (.iload_n 1, 1) := by decide +kernel
theorem dX12_fits_12 : decode cX12_fits 12 = .ok (.iload 4, 2) := by decide +kernel
theorem dX12_fits_14 : decode cX12_fits 14 = .ok (.invokestatic 56, 3) := by decide +kernel
theorem dX12_fits_17 : decode cX12_fits 17 = .ok (.istore 5, 2) := by decide +kernel
theorem dX12_fits_19 : decode cX12_fits 19 = .ok (.iload_n 3, 1) := by decide +kernel
theorem dX12_fits_20 : decode cX12_fits 20 = .ok (.ifCond .eq 39, 3) := by decide +kernel
theorem dX12_fits_23 : decode cX12_fits 23 = .ok (.iload 5, 2) := by decide +kernel
theorem dX12_fits_25 : decode cX12_fits 25 = .ok (.aload_n 0, 1) := by decide +kernel
theorem dX12_fits_26 : decode cX12_fits 26 = .ok (.iload_n 2, 1) := by decide +kernel
theorem dX12_fits_27 : decode cX12_fits 27 = .ok (.iconst 2, 1) := by decide +kernel
theorem dX12_fits_28 : decode cX12_fits 28 = .ok (.invokevirtual 67, 3) := by decide +kernel
theorem dX12_fits_31 : decode cX12_fits 31 = .ok (.iload 4, 2) := by decide +kernel
theorem dX12_fits_33 : decode cX12_fits 33 = .ok (.invokestatic 56, 3) := by decide +kernel
theorem dX12_fits_36 : decode cX12_fits 36 = .ok (.if_icmp .eq 19, 3) := by decide +kernel
theorem dX12_fits_39 : decode cX12_fits 39 = .ok (.iload 5, 2) := by decide +kernel
theorem dX12_fits_41 : decode cX12_fits 41 = .ok (.aload_n 0, 1) := by decide +kernel
theorem dX12_fits_42 : decode cX12_fits 42 = .ok (.iload_n 2, 1) := by decide +kernel
theorem dX12_fits_43 : decode cX12_fits 43 = .ok (.iconst 3, 1) := by decide +kernel
theorem dX12_fits_44 : decode cX12_fits 44 = .ok (.invokevirtual 67, 3) := by decide +kernel
theorem dX12_fits_47 : decode cX12_fits 47 = .ok (.iload 4, 2) := by decide +kernel
theorem dX12_fits_49 : decode cX12_fits 49 = .ok (.invokestatic 56, 3) := by decide +kernel
theorem dX12_fits_52 : decode cX12_fits 52 = .ok (.if_icmp .ne 7, 3) := by decide +kernel
theorem dX12_fits_55 : decode cX12_fits 55 = .ok (.iconst 1, 1) := by decide +kernel
theorem dX12_fits_56 : decode cX12_fits 56 = .ok (.goto 4, 3) := by decide +kernel
theorem dX12_fits_59 : decode cX12_fits 59 = .ok (.iconst 0, 1) := by decide +kernel
theorem dX12_fits_60 : decode cX12_fits 60 = .ok (.istore_n 3, 1) := by decide +kernel
theorem dX12_fits_61 : decode cX12_fits 61 = .ok (.iinc 4 1, 3) := by decide +kernel
theorem dX12_fits_64 : decode cX12_fits 64 = .ok (.goto (-59), 3) := by decide +kernel
theorem dX12_fits_67 : decode cX12_fits 67 = .ok (.iload_n 3, 1) := by decide +kernel
theorem dX12_fits_68 : decode cX12_fits 68 = .ok (.ireturn, 1) := by decide +kernel
theorem dX12_isOpenBy_0 : decode cX12_isOpenBy 0 = .ok (.iconst 0, 1) := by decide +kernel
theorem dX12_isOpenBy_1 : decode cX12_isOpenBy 1 = .ok (.istore_n 3, 1) := by decide +kernel
theorem dX12_isOpenBy_2 : decode cX12_isOpenBy 2 = .ok (.iconst 0, 1) := by decide +kernel
theorem dX12_isOpenBy_3 : decode cX12_isOpenBy 3 = .ok (.istore 4, 2) := by decide +kernel
theorem dX12_isOpenBy_5 : decode cX12_isOpenBy 5 = .ok (.iload 4, 2) := by decide +kernel
theorem dX12_isOpenBy_7 : decode cX12_isOpenBy 7 = .ok (.aload_n 0, 1) := by decide +kernel
theorem dX12_isOpenBy_8 : decode cX12_isOpenBy 8 = .ok (.getfield 7, 3) := by decide +kernel
theorem dX12_isOpenBy_11 : decode cX12_isOpenBy 11 = .ok (.iconst 5, 1) := by decide +kernel
theorem dX12_isOpenBy_12 : decode cX12_isOpenBy 12 = .ok (.iaload, 1) := by decide +kernel
theorem dX12_isOpenBy_13 : decode cX12_isOpenBy 13 = .ok (.if_icmp .ge 43, 3) := by decide +kernel
theorem dX12_isOpenBy_16 : decode cX12_isOpenBy 16 = .ok (.iload_n 3, 1) := by decide +kernel
theorem dX12_isOpenBy_17 : decode cX12_isOpenBy 17 = .ok (.ifCond .ne 27, 3) := by decide +kernel
theorem dX12_isOpenBy_20 : decode cX12_isOpenBy 20 = .ok (.iload_n 2, 1) := by decide +kernel
theorem dX12_isOpenBy_21 : decode cX12_isOpenBy 21 = .ok (.iload 4, 2) := by decide +kernel
theorem dX12_isOpenBy_23 : decode cX12_isOpenBy 23 = .ok (.ishr, 1) := by decide +kernel
theorem dX12_isOpenBy_24 : decode cX12_isOpenBy 24 = .ok (.iconst 1, 1) := by decide +kernel
theorem dX12_isOpenBy_25 : decode cX12_isOpenBy 25 = .ok (.iand, 1) := by decide +kernel
theorem dX12_isOpenBy_26 : decode cX12_isOpenBy 26 = .ok (.iconst 1, 1) := by decide +kernel
theorem dX12_isOpenBy_27 : decode cX12_isOpenBy 27 = .ok (.if_icmp .ne 21, 3) := by decide +kernel
theorem dX12_isOpenBy_30 : decode cX12_isOpenBy 30 = .ok (.aload_n 0, 1) := by decide +kernel
theorem dX12_isOpenBy_31 : decode cX12_isOpenBy 31 = .ok (.aload_n 0, 1) := by decide +kernel
theorem dX12_isOpenBy_32 : decode cX12_isOpenBy 32 = .ok (.iload 4, 2) := by decide +kernel
theorem dX12_isOpenBy_34 : decode cX12_isOpenBy 34 = .ok (.invokevirtual 90, 3) := by decide +kernel
theorem dX12_isOpenBy_37 : decode cX12_isOpenBy 37 = .ok (.iload_n 1, 1) := by decide +kernel
theorem dX12_isOpenBy_38 : decode cX12_isOpenBy 38 = .ok (.invokevirtual 112, 3) := by decide +kernel
theorem dX12_isOpenBy_41 : decode cX12_isOpenBy 41 = .ok (.ifCond .eq 7, 3) := by decide +kernel
theorem dX12_isOpenBy_44 : decode cX12_isOpenBy 44 = .ok (.iconst 1, 1) := by decide +kernel
theorem dX12_isOpenBy_45 : decode cX12_isOpenBy 45 = .ok (.goto 4, 3) := by decide +kernel
theorem dX12_isOpenBy_48 : decode cX12_isOpenBy 48 = .ok (.iconst 0, 1) := by decide +kernel
theorem dX12_isOpenBy_49 : decode cX12_isOpenBy 49 = .ok (.istore_n 3, 1) := by decide +kernel
theorem dX12_isOpenBy_50 : decode cX12_isOpenBy 50 = .ok (.iinc 4 1, 3) := by decide +kernel
theorem dX12_isOpenBy_53 : decode cX12_isOpenBy 53 = .ok (.goto (-48), 3) := by decide +kernel
theorem dX12_isOpenBy_56 : decode cX12_isOpenBy 56 = .ok (.iload_n 3, 1) := by decide +kernel
theorem dX12_isOpenBy_57 : decode cX12_isOpenBy 57 = .ok (.ireturn, 1) := by decide +kernel
theorem dX12_behind_0 : decode cX12_behind 0 = .ok (.aload_n 0, 1) := by decide +kernel
theorem dX12_behind_1 : decode cX12_behind 1 = .ok (.iload_n 1, 1) := by decide +kernel
theorem dX12_behind_2 : decode cX12_behind 2 = .ok (.iconst 0, 1) := by decide +kernel
theorem dX12_behind_3 : decode cX12_behind 3 = .ok (.invokevirtual 67, 3) := by decide +kernel
theorem dX12_behind_6 : decode cX12_behind 6 = .ok (.iload_n 2, 1) := by decide +kernel
theorem dX12_behind_7 : decode cX12_behind 7 = .ok (.if_icmp .ne 12, 3) := by decide +kernel
theorem dX12_behind_10 : decode cX12_behind 10 = .ok (.aload_n 0, 1) := by decide +kernel
theorem dX12_behind_11 : decode cX12_behind 11 = .ok (.iload_n 1, 1) := by decide +kernel
theorem dX12_behind_12 : decode cX12_behind 12 = .ok (.iconst 1, 1) := by decide +kernel
theorem dX12_behind_13 : decode cX12_behind 13 = .ok (.invokevirtual 67, 3) := by decide +kernel
theorem dX12_behind_16 : decode cX12_behind 16 = .ok (.goto 24, 3) := by decide +kernel
theorem dX12_behind_19 : decode cX12_behind 19 = .ok (.aload_n 0, 1) := by decide +kernel
theorem dX12_behind_20 : decode cX12_behind 20 = .ok (.iload_n 1, 1) := by decide +kernel
theorem dX12_behind_21 : decode cX12_behind 21 = .ok (.iconst 1, 1) := by decide +kernel
theorem dX12_behind_22 : decode cX12_behind 22 = .ok (.invokevirtual 67, 3) := by decide +kernel
theorem dX12_behind_25 : decode cX12_behind 25 = .ok (.iload_n 2, 1) := by decide +kernel
theorem dX12_behind_26 : decode cX12_behind 26 = .ok (.if_icmp .ne 12, 3) := by decide +kernel
theorem dX12_behind_29 : decode cX12_behind 29 = .ok (.aload_n 0, 1) := by decide +kernel
theorem dX12_behind_30 : decode cX12_behind 30 = .ok (.iload_n 1, 1) := by decide +kernel
theorem dX12_behind_31 : decode cX12_behind 31 = .ok (.iconst 0, 1) := by decide +kernel
theorem dX12_behind_32 : decode cX12_behind 32 = .ok (.invokevirtual 67, 3) := by decide +kernel
theorem dX12_behind_35 : decode cX12_behind 35 = .ok (.goto 5, 3) := by decide +kernel
theorem dX12_behind_38 : decode cX12_behind 38 = .ok (.bipush (-6), 2) := by decide +kernel
theorem dX12_behind_40 : decode cX12_behind 40 = .ok (.ireturn, 1) := by decide +kernel
theorem dX12_go_0 : decode cX12_go 0 = .ok (.aload_n 0, 1) := by decide +kernel
theorem dX12_go_1 : decode cX12_go 1 = .ok (.iload_n 1, 1) := by decide +kernel
theorem dX12_go_2 : decode cX12_go 2 = .ok (.invokevirtual 80, 3) := by decide +kernel
theorem dX12_go_5 : decode cX12_go 5 = .ok (.ifCond .ne 5, 3) := by decide +kernel
theorem dX12_go_8 : decode cX12_go 8 = .ok (.iconst (-1), 1) := by decide +kernel
theorem dX12_go_9 : decode cX12_go 9 = .ok (.ireturn, 1) := by decide +kernel
theorem dX12_go_10 : decode cX12_go 10 = .ok (.aload_n 0, 1) := by decide +kernel
theorem dX12_go_11 : decode cX12_go 11 = .ok (.iload_n 1, 1) := by decide +kernel
theorem dX12_go_12 : decode cX12_go 12 = .ok (.aload_n 0, 1) := by decide +kernel
theorem dX12_go_13 : decode cX12_go 13 = .ok (.getfield 7, 3) := by decide +kernel
theorem dX12_go_16 : decode cX12_go 16 = .ok (.iconst 3, 1) := by decide +kernel
theorem dX12_go_17 : decode cX12_go 17 = .ok (.iaload, 1) := by decide +kernel
theorem dX12_go_18 : decode cX12_go 18 = .ok (.invokevirtual 116, 3) := by decide +kernel
theorem dX12_go_21 : decode cX12_go 21 = .ok (.ifCond .lt 17, 3) := by decide +kernel
theorem dX12_go_24 : decode cX12_go 24 = .ok (.aload_n 0, 1) := by decide +kernel
theorem dX12_go_25 : decode cX12_go 25 = .ok (.iload_n 1, 1) := by decide +kernel
theorem dX12_go_26 : decode cX12_go 26 = .ok (.aload_n 0, 1) := by decide +kernel
theorem dX12_go_27 : decode cX12_go 27 = .ok (.bipush 8, 2) := by decide +kernel
theorem dX12_go_29 : decode cX12_go 29 = .ok (.invokevirtual 105, 3) := by decide +kernel
theorem dX12_go_32 : decode cX12_go 32 = .ok (.invokevirtual 119, 3) := by decide +kernel
theorem dX12_go_35 : decode cX12_go 35 = .ok (.ifCond .ne 6, 3) := by decide +kernel
theorem dX12_go_38 : decode cX12_go 38 = .ok (.bipush (-5), 2) := by decide +kernel
theorem dX12_go_40 : decode cX12_go 40 = .ok (.ireturn, 1) := by decide +kernel
theorem dX12_go_41 : decode cX12_go 41 = .ok (.aload_n 0, 1) := by decide +kernel
theorem dX12_go_42 : decode cX12_go 42 = .ok (.invokevirtual 53, 3) := by decide +kernel
theorem dX12_go_45 : decode cX12_go 45 = .ok (.aload_n 0, 1) := by decide +kernel
theorem dX12_go_46 : decode cX12_go 46 = .ok (.getfield 7, 3) := by decide +kernel
theorem dX12_go_49 : decode cX12_go 49 = .ok (.iconst 3, 1) := by decide +kernel
theorem dX12_go_50 : decode cX12_go 50 = .ok (.aload_n 0, 1) := by decide +kernel
theorem dX12_go_51 : decode cX12_go 51 = .ok (.iload_n 1, 1) := by decide +kernel
theorem dX12_go_52 : decode cX12_go 52 = .ok (.aload_n 0, 1) := by decide +kernel
theorem dX12_go_53 : decode cX12_go 53 = .ok (.getfield 7, 3) := by decide +kernel
theorem dX12_go_56 : decode cX12_go 56 = .ok (.iconst 3, 1) := by decide +kernel
theorem dX12_go_57 : decode cX12_go 57 = .ok (.iaload, 1) := by decide +kernel
theorem dX12_go_58 : decode cX12_go 58 = .ok (.invokevirtual 116, 3) := by decide +kernel
theorem dX12_go_61 : decode cX12_go 61 = .ok (.iastore, 1) := by decide +kernel
theorem dX12_go_62 : decode cX12_go 62 = .ok (.aload_n 0, 1) := by decide +kernel
theorem dX12_go_63 : decode cX12_go 63 = .ok (.getfield 7, 3) := by decide +kernel
theorem dX12_go_66 : decode cX12_go 66 = .ok (.bipush 10, 2) := by decide +kernel
theorem dX12_go_68 : decode cX12_go 68 = .ok (.dup2, 1) := by decide +kernel
theorem dX12_go_69 : decode cX12_go 69 = .ok (.iaload, 1) := by decide +kernel
theorem dX12_go_70 : decode cX12_go 70 = .ok (.iconst 1, 1) := by decide +kernel
theorem dX12_go_71 : decode cX12_go 71 = .ok (.iadd, 1) := by decide +kernel
theorem dX12_go_72 : decode cX12_go 72 = .ok (.iastore, 1) := by decide +kernel
theorem dX12_go_73 : decode cX12_go 73 = .ok (.aload_n 0, 1) := by decide +kernel
theorem dX12_go_74 : decode cX12_go 74 = .ok (.getfield 7, 3) := by decide +kernel
theorem dX12_go_77 : decode cX12_go 77 = .ok (.iconst 3, 1) := by decide +kernel
theorem dX12_go_78 : decode cX12_go 78 = .ok (.iaload, 1) := by decide +kernel
theorem dX12_go_79 : decode cX12_go 79 = .ok (.ireturn, 1) := by decide +kernel
theorem dX12_placeOf_0 : decode cX12_placeOf 0 = .ok (.bipush (-6), 2) := by decide +kernel
theorem dX12_placeOf_2 : decode cX12_placeOf 2 = .ok (.istore_n 2, 1) := by decide +kernel
theorem dX12_placeOf_3 : decode cX12_placeOf 3 = .ok (.iconst 0, 1) := by decide +kernel
theorem dX12_placeOf_4 : decode cX12_placeOf 4 = .ok (.istore_n 3, 1) := by decide +kernel
theorem dX12_placeOf_5 : decode cX12_placeOf 5 = .ok (.iload_n 3, 1) := by decide +kernel
theorem dX12_placeOf_6 : decode cX12_placeOf 6 = .ok (.aload_n 0, 1) := by decide +kernel
theorem dX12_placeOf_7 : decode cX12_placeOf 7 = .ok (.getfield 7, 3) := by decide +kernel
theorem dX12_placeOf_10 : decode cX12_placeOf 10 = .ok (.bipush 9, 2) := by decide +kernel
theorem dX12_placeOf_12 : decode cX12_placeOf 12 = .ok (.iaload, 1) := by decide +kernel
theorem dX12_placeOf_13 : decode cX12_placeOf 13 = .ok (.if_icmp .ge 31, 3) := by decide +kernel
theorem dX12_placeOf_16 : decode cX12_placeOf 16 = .ok (.aload_n 0, 1) := by decide +kernel
theorem dX12_placeOf_17 : decode cX12_placeOf 17 = .ok (.getfield 7, 3) := by decide +kernel
theorem dX12_placeOf_20 : decode cX12_placeOf 20 = .ok (.sipush 150, 3) := by decide +kernel
theorem dX12_placeOf_23 : decode cX12_placeOf 23 = .ok (.iconst 3, 1) := by decide +kernel
theorem dX12_placeOf_24 : decode cX12_placeOf 24 = .ok (.iload_n 3, 1) := by decide +kernel
theorem dX12_placeOf_25 : decode cX12_placeOf 25 = .ok (.imul, 1) := by decide +kernel
theorem dX12_placeOf_26 : decode cX12_placeOf 26 = .ok (.iadd, 1) := by decide +kernel
theorem dX12_placeOf_27 : decode cX12_placeOf 27 = .ok (.iaload, 1) := by decide +kernel
theorem dX12_placeOf_28 : decode cX12_placeOf 28 = .ok (.iload_n 1, 1) := by decide +kernel
theorem dX12_placeOf_29 : decode cX12_placeOf 29 = .ok (.if_icmp .ne 7, 3) := by decide +kernel
theorem dX12_placeOf_32 : decode cX12_placeOf 32 = .ok (.iload_n 3, 1) := by decide +kernel
theorem dX12_placeOf_33 : decode cX12_placeOf 33 = .ok (.goto 4, 3) := by decide +kernel
theorem dX12_placeOf_36 : decode cX12_placeOf 36 = .ok (.iload_n 2, 1) := by decide +kernel
theorem dX12_placeOf_37 : decode cX12_placeOf 37 = .ok (.istore_n 2, 1) := by decide +kernel
theorem dX12_placeOf_38 : decode cX12_placeOf 38 = .ok (.iinc 3 1, 3) := by decide +kernel
theorem dX12_placeOf_41 : decode cX12_placeOf 41 = .ok (.goto (-36), 3) := by decide +kernel
theorem dX12_placeOf_44 : decode cX12_placeOf 44 = .ok (.iload_n 2, 1) := by decide +kernel
theorem dX12_placeOf_45 : decode cX12_placeOf 45 = .ok (.ireturn, 1) := by decide +kernel
theorem dX12_plan_0 : decode cX12_plan 0 = .ok (.aload_n 0, 1) := by decide +kernel
theorem dX12_plan_1 : decode cX12_plan 1 = .ok (.iload_n 1, 1) := by decide +kernel
theorem dX12_plan_2 : decode cX12_plan 2 = .ok (.invokevirtual 80, 3) := by decide +kernel
theorem dX12_plan_5 : decode cX12_plan 5 = .ok (.ifCond .ne 5, 3) := by decide +kernel
theorem dX12_plan_8 : decode cX12_plan 8 = .ok (.iconst (-1), 1) := by decide +kernel
theorem dX12_plan_9 : decode cX12_plan 9 = .ok (.ireturn, 1) := by decide +kernel
theorem dX12_plan_10 : decode cX12_plan 10 = .ok (.iload_n 2, 1) := by decide +kernel
theorem dX12_plan_11 : decode cX12_plan 11 = .ok (.invokestatic 60, 3) := by decide +kernel
theorem dX12_plan_14 : decode cX12_plan 14 = .ok (.ifCond .eq 10, 3) := by decide +kernel
theorem dX12_plan_17 : decode cX12_plan 17 = .ok (.iload_n 3, 1) := by decide +kernel
theorem dX12_plan_18 : decode cX12_plan 18 = .ok (.invokestatic 60, 3) := by decide +kernel
theorem dX12_plan_21 : decode cX12_plan 21 = .ok (.ifCond .ne 6, 3) := by decide +kernel
theorem dX12_plan_24 : decode cX12_plan 24 = .ok (.bipush (-2), 2) := by decide +kernel
theorem dX12_plan_26 : decode cX12_plan 26 = .ok (.ireturn, 1) := by decide +kernel
theorem dX12_plan_27 : decode cX12_plan 27 = .ok (.aload_n 0, 1) := by decide +kernel
theorem dX12_plan_28 : decode cX12_plan 28 = .ok (.getfield 7, 3) := by decide +kernel
theorem dX12_plan_31 : decode cX12_plan 31 = .ok (.bipush 9, 2) := by decide +kernel
theorem dX12_plan_33 : decode cX12_plan 33 = .ok (.iaload, 1) := by decide +kernel
theorem dX12_plan_34 : decode cX12_plan 34 = .ok (.bipush 6, 2) := by decide +kernel
theorem dX12_plan_36 : decode cX12_plan 36 = .ok (.if_icmp .ne 6, 3) := by decide +kernel
theorem dX12_plan_39 : decode cX12_plan 39 = .ok (.bipush (-4), 2) := by decide +kernel
theorem dX12_plan_41 : decode cX12_plan 41 = .ok (.ireturn, 1) := by decide +kernel
theorem dX12_plan_42 : decode cX12_plan 42 = .ok (.aload_n 0, 1) := by decide +kernel
theorem dX12_plan_43 : decode cX12_plan 43 = .ok (.iload_n 1, 1) := by decide +kernel
theorem dX12_plan_44 : decode cX12_plan 44 = .ok (.invokevirtual 122, 3) := by decide +kernel
theorem dX12_plan_47 : decode cX12_plan 47 = .ok (.ifCond .lt 6, 3) := by decide +kernel
theorem dX12_plan_50 : decode cX12_plan 50 = .ok (.bipush (-5), 2) := by decide +kernel
theorem dX12_plan_52 : decode cX12_plan 52 = .ok (.ireturn, 1) := by decide +kernel
theorem dX12_plan_53 : decode cX12_plan 53 = .ok (.aload_n 0, 1) := by decide +kernel
theorem dX12_plan_54 : decode cX12_plan 54 = .ok (.invokevirtual 53, 3) := by decide +kernel
theorem dX12_plan_57 : decode cX12_plan 57 = .ok (.sipush 150, 3) := by decide +kernel
theorem dX12_plan_60 : decode cX12_plan 60 = .ok (.iconst 3, 1) := by decide +kernel
theorem dX12_plan_61 : decode cX12_plan 61 = .ok (.aload_n 0, 1) := by decide +kernel
theorem dX12_plan_62 : decode cX12_plan 62 = .ok (.getfield 7, 3) := by decide +kernel
theorem dX12_plan_65 : decode cX12_plan 65 = .ok (.bipush 9, 2) := by decide +kernel
theorem dX12_plan_67 : decode cX12_plan 67 = .ok (.iaload, 1) := by decide +kernel
theorem dX12_plan_68 : decode cX12_plan 68 = .ok (.imul, 1) := by decide +kernel
theorem dX12_plan_69 : decode cX12_plan 69 = .ok (.iadd, 1) := by decide +kernel
theorem dX12_plan_70 : decode cX12_plan 70 = .ok (.istore 4, 2) := by decide +kernel
theorem dX12_plan_72 : decode cX12_plan 72 = .ok (.aload_n 0, 1) := by decide +kernel
theorem dX12_plan_73 : decode cX12_plan 73 = .ok (.getfield 7, 3) := by decide +kernel
theorem dX12_plan_76 : decode cX12_plan 76 = .ok (.iload 4, 2) := by decide +kernel
theorem dX12_plan_78 : decode cX12_plan 78 = .ok (.iload_n 1, 1) := by decide +kernel
theorem dX12_plan_79 : decode cX12_plan 79 = .ok (.iastore, 1) := by decide +kernel
theorem dX12_plan_80 : decode cX12_plan 80 = .ok (.aload_n 0, 1) := by decide +kernel
theorem dX12_plan_81 : decode cX12_plan 81 = .ok (.getfield 7, 3) := by decide +kernel
theorem dX12_plan_84 : decode cX12_plan 84 = .ok (.iload 4, 2) := by decide +kernel
theorem dX12_plan_86 : decode cX12_plan 86 = .ok (.iconst 1, 1) := by decide +kernel
theorem dX12_plan_87 : decode cX12_plan 87 = .ok (.iadd, 1) := by decide +kernel
theorem dX12_plan_88 : decode cX12_plan 88 = .ok (.iload_n 2, 1) := by decide +kernel
theorem dX12_plan_89 : decode cX12_plan 89 = .ok (.iastore, 1) := by decide +kernel
theorem dX12_plan_90 : decode cX12_plan 90 = .ok (.aload_n 0, 1) := by decide +kernel
theorem dX12_plan_91 : decode cX12_plan 91 = .ok (.getfield 7, 3) := by decide +kernel
theorem dX12_plan_94 : decode cX12_plan 94 = .ok (.iload 4, 2) := by decide +kernel
theorem dX12_plan_96 : decode cX12_plan 96 = .ok (.iconst 2, 1) := by decide +kernel
theorem dX12_plan_97 : decode cX12_plan 97 = .ok (.iadd, 1) := by decide +kernel
theorem dX12_plan_98 : decode cX12_plan 98 = .ok (.iload_n 3, 1) := by decide +kernel
theorem dX12_plan_99 : decode cX12_plan 99 = .ok (.iastore, 1) := by decide +kernel
theorem dX12_plan_100 : decode cX12_plan 100 = .ok (.aload_n 0, 1) := by decide +kernel
theorem dX12_plan_101 : decode cX12_plan 101 = .ok (.getfield 7, 3) := by decide +kernel
theorem dX12_plan_104 : decode cX12_plan 104 = .ok (.bipush 9, 2) := by decide +kernel
theorem dX12_plan_106 : decode cX12_plan 106 = .ok (.dup2, 1) := by decide +kernel
theorem dX12_plan_107 : decode cX12_plan 107 = .ok (.iaload, 1) := by decide +kernel
theorem dX12_plan_108 : decode cX12_plan 108 = .ok (.iconst 1, 1) := by decide +kernel
theorem dX12_plan_109 : decode cX12_plan 109 = .ok (.iadd, 1) := by decide +kernel
theorem dX12_plan_110 : decode cX12_plan 110 = .ok (.iastore, 1) := by decide +kernel
theorem dX12_plan_111 : decode cX12_plan 111 = .ok (.aload_n 0, 1) := by decide +kernel
theorem dX12_plan_112 : decode cX12_plan 112 = .ok (.getfield 7, 3) := by decide +kernel
theorem dX12_plan_115 : decode cX12_plan 115 = .ok (.bipush 9, 2) := by decide +kernel
theorem dX12_plan_117 : decode cX12_plan 117 = .ok (.iaload, 1) := by decide +kernel
theorem dX12_plan_118 : decode cX12_plan 118 = .ok (.ireturn, 1) := by decide +kernel
theorem dX12_dropPlan_0 : decode cX12_dropPlan 0 = .ok (.aload_n 0, 1) := by decide +kernel
theorem dX12_dropPlan_1 : decode cX12_dropPlan 1 = .ok (.invokevirtual 53, 3) := by decide +kernel
theorem dX12_dropPlan_4 : decode cX12_dropPlan 4 = .ok (.aload_n 0, 1) := by decide +kernel
theorem dX12_dropPlan_5 : decode cX12_dropPlan 5 = .ok (.getfield 7, 3) := by decide +kernel
theorem dX12_dropPlan_8 : decode cX12_dropPlan 8 = .ok (.bipush 9, 2) := by decide +kernel
theorem dX12_dropPlan_10 : decode cX12_dropPlan 10 = .ok (.iaload, 1) := by decide +kernel
theorem dX12_dropPlan_11 : decode cX12_dropPlan 11 = .ok (.istore_n 1, 1) := by decide +kernel
theorem dX12_dropPlan_12 : decode cX12_dropPlan 12 = .ok (.aload_n 0, 1) := by decide +kernel
theorem dX12_dropPlan_13 : decode cX12_dropPlan 13 = .ok (.getfield 7, 3) := by decide +kernel
theorem dX12_dropPlan_16 : decode cX12_dropPlan 16 = .ok (.bipush 9, 2) := by decide +kernel
theorem dX12_dropPlan_18 : decode cX12_dropPlan 18 = .ok (.iconst 0, 1) := by decide +kernel
theorem dX12_dropPlan_19 : decode cX12_dropPlan 19 = .ok (.iastore, 1) := by decide +kernel
theorem dX12_dropPlan_20 : decode cX12_dropPlan 20 = .ok (.iload_n 1, 1) := by decide +kernel
theorem dX12_dropPlan_21 : decode cX12_dropPlan 21 = .ok (.ireturn, 1) := by decide +kernel
theorem dX12_lacks_0 : decode cX12_lacks 0 = .ok (.aload_n 0, 1) := by decide +kernel
theorem dX12_lacks_1 : decode cX12_lacks 1 = .ok (.getfield 7, 3) := by decide +kernel
theorem dX12_lacks_4 : decode cX12_lacks 4 = .ok (.bipush 7, 2) := by decide +kernel
theorem dX12_lacks_6 : decode cX12_lacks 6 = .ok (.iaload, 1) := by decide +kernel
theorem dX12_lacks_7 : decode cX12_lacks 7 = .ok (.istore_n 1, 1) := by decide +kernel
theorem dX12_lacks_8 : decode cX12_lacks 8 = .ok (.iconst 0, 1) := by decide +kernel
theorem dX12_lacks_9 : decode cX12_lacks 9 = .ok (.istore_n 2, 1) := by decide +kernel
theorem dX12_lacks_10 : decode cX12_lacks 10 = .ok (.iconst 0, 1) := by decide +kernel
theorem dX12_lacks_11 : decode cX12_lacks 11 = .ok (.istore_n 3, 1) := by decide +kernel
theorem dX12_lacks_12 : decode cX12_lacks 12 = .ok (.iload_n 3, 1) := by decide +kernel
theorem dX12_lacks_13 : decode cX12_lacks 13 = .ok (.aload_n 0, 1) := by decide +kernel
theorem dX12_lacks_14 : decode cX12_lacks 14 = .ok (.getfield 7, 3) := by decide +kernel
theorem dX12_lacks_17 : decode cX12_lacks 17 = .ok (.bipush 9, 2) := by decide +kernel
theorem dX12_lacks_19 : decode cX12_lacks 19 = .ok (.iaload, 1) := by decide +kernel
theorem dX12_lacks_20 : decode cX12_lacks 20 = .ok (.if_icmp .ge 72, 3) := by decide +kernel
theorem dX12_lacks_23 : decode cX12_lacks 23 = .ok (.sipush 150, 3) := by decide +kernel
theorem dX12_lacks_26 : decode cX12_lacks 26 = .ok (.iconst 3, 1) := by decide +kernel
theorem dX12_lacks_27 : decode cX12_lacks 27 = .ok (.aload_n 0, 1) := by decide +kernel
theorem dX12_lacks_28 : decode cX12_lacks 28 = .ok (.getfield 26, 3) := by decide +kernel
theorem dX12_lacks_31 : decode cX12_lacks 31 = .ok (.iload_n 3, 1) := by decide +kernel
theorem dX12_lacks_32 : decode cX12_lacks 32 = .ok (.iaload, 1) := by decide +kernel
theorem dX12_lacks_33 : decode cX12_lacks 33 = .ok (.imul, 1) := by decide +kernel
theorem dX12_lacks_34 : decode cX12_lacks 34 = .ok (.iadd, 1) := by decide +kernel
theorem dX12_lacks_35 : decode cX12_lacks 35 = .ok (.istore 4, 2) := by decide +kernel
theorem dX12_lacks_37 : decode cX12_lacks 37 = .ok (.iload_n 1, 1) := by decide +kernel
theorem dX12_lacks_38 : decode cX12_lacks 38 = .ok (.aload_n 0, 1) := by decide +kernel
theorem dX12_lacks_39 : decode cX12_lacks 39 = .ok (.aload_n 0, 1) := by decide +kernel
theorem dX12_lacks_40 : decode cX12_lacks 40 = .ok (.getfield 7, 3) := by decide +kernel
theorem dX12_lacks_43 : decode cX12_lacks 43 = .ok (.iload 4, 2) := by decide +kernel
theorem dX12_lacks_45 : decode cX12_lacks 45 = .ok (.iaload, 1) := by decide +kernel
theorem dX12_lacks_46 : decode cX12_lacks 46 = .ok (.invokevirtual 77, 3) := by decide +kernel
theorem dX12_lacks_49 : decode cX12_lacks 49 = .ok (.aload_n 0, 1) := by decide +kernel
theorem dX12_lacks_50 : decode cX12_lacks 50 = .ok (.getfield 7, 3) := by decide +kernel
theorem dX12_lacks_53 : decode cX12_lacks 53 = .ok (.iload 4, 2) := by decide +kernel
theorem dX12_lacks_55 : decode cX12_lacks 55 = .ok (.iconst 1, 1) := by decide +kernel
theorem dX12_lacks_56 : decode cX12_lacks 56 = .ok (.iadd, 1) := by decide +kernel
theorem dX12_lacks_57 : decode cX12_lacks 57 = .ok (.iaload, 1) := by decide +kernel
theorem dX12_lacks_58 : decode cX12_lacks 58 = .ok (.aload_n 0, 1) := by decide +kernel
theorem dX12_lacks_59 : decode cX12_lacks 59 = .ok (.getfield 7, 3) := by decide +kernel
theorem dX12_lacks_62 : decode cX12_lacks 62 = .ok (.iload 4, 2) := by decide +kernel
theorem dX12_lacks_64 : decode cX12_lacks 64 = .ok (.iconst 2, 1) := by decide +kernel
theorem dX12_lacks_65 : decode cX12_lacks 65 = .ok (.iadd, 1) := by decide +kernel
theorem dX12_lacks_66 : decode cX12_lacks 66 = .ok (.iaload, 1) := by decide +kernel
theorem dX12_lacks_67 : decode cX12_lacks 67 = .ok (.invokestatic 64, 3) := by decide +kernel
theorem dX12_lacks_70 : decode cX12_lacks 70 = .ok (.isub, 1) := by decide +kernel
theorem dX12_lacks_71 : decode cX12_lacks 71 = .ok (.iadd, 1) := by decide +kernel
theorem dX12_lacks_72 : decode cX12_lacks 72 = .ok (.istore_n 1, 1) := by decide +kernel
theorem dX12_lacks_73 : decode cX12_lacks 73 = .ok (.iload_n 1, 1) := by decide +kernel
theorem dX12_lacks_74 : decode cX12_lacks 74 = .ok (.ineg, 1) := by decide +kernel
theorem dX12_lacks_75 : decode cX12_lacks 75 = .ok (.iload_n 2, 1) := by decide +kernel
theorem dX12_lacks_76 : decode cX12_lacks 76 = .ok (.if_icmp .le 8, 3) := by decide +kernel
theorem dX12_lacks_79 : decode cX12_lacks 79 = .ok (.iload_n 1, 1) := by decide +kernel
theorem dX12_lacks_80 : decode cX12_lacks 80 = .ok (.ineg, 1) := by decide +kernel
theorem dX12_lacks_81 : decode cX12_lacks 81 = .ok (.goto 4, 3) := by decide +kernel
theorem dX12_lacks_84 : decode cX12_lacks 84 = .ok (.iload_n 2, 1) := by decide +kernel
theorem dX12_lacks_85 : decode cX12_lacks 85 = .ok (.istore_n 2, 1) := by decide +kernel
theorem dX12_lacks_86 : decode cX12_lacks 86 = .ok (.iinc 3 1, 3) := by decide +kernel
theorem dX12_lacks_89 : decode cX12_lacks 89 = .ok (.goto (-77), 3) := by decide +kernel
theorem dX12_lacks_92 : decode cX12_lacks 92 = .ok (.iload_n 2, 1) := by decide +kernel
theorem dX12_lacks_93 : decode cX12_lacks 93 = .ok (.ireturn, 1) := by decide +kernel
theorem dX12_nextOrder_0 : decode cX12_nextOrder 0 = .ok (.aload_n 0, 1) := by decide +kernel
theorem dX12_nextOrder_1 : decode cX12_nextOrder 1 = .ok (.getfield 7, 3) := by decide +kernel
theorem dX12_nextOrder_4 : decode cX12_nextOrder 4 = .ok (.bipush 9, 2) := by decide +kernel
theorem dX12_nextOrder_6 : decode cX12_nextOrder 6 = .ok (.iaload, 1) := by decide +kernel
theorem dX12_nextOrder_7 : decode cX12_nextOrder 7 = .ok (.istore_n 1, 1) := by decide +kernel
theorem dX12_nextOrder_8 : decode cX12_nextOrder 8 = .ok (.iload_n 1, 1) := by decide +kernel
theorem dX12_nextOrder_9 : decode cX12_nextOrder 9 = .ok (.iconst 2, 1) := by decide +kernel
theorem dX12_nextOrder_10 : decode cX12_nextOrder 10 = .ok (.isub, 1) := by decide +kernel
theorem dX12_nextOrder_11 : decode cX12_nextOrder 11 = .ok (.istore_n 2, 1) := by decide +kernel
theorem dX12_nextOrder_12 : decode cX12_nextOrder 12 = .ok (.iload_n 2, 1) := by decide +kernel
theorem dX12_nextOrder_13 : decode cX12_nextOrder 13 = .ok (.ifCond .lt 26, 3) := by decide +kernel
theorem dX12_nextOrder_16 : decode cX12_nextOrder 16 = .ok (.aload_n 0, 1) := by decide +kernel
theorem dX12_nextOrder_17 : decode cX12_nextOrder 17 = .ok (.getfield 26, 3) := by decide +kernel
theorem dX12_nextOrder_20 : decode cX12_nextOrder 20 = .ok (.iload_n 2, 1) := by decide +kernel
theorem dX12_nextOrder_21 : decode cX12_nextOrder 21 = .ok (.iaload, 1) := by decide +kernel
theorem dX12_nextOrder_22 : decode cX12_nextOrder 22 = .ok (.aload_n 0, 1) := by decide +kernel
theorem dX12_nextOrder_23 : decode cX12_nextOrder 23 = .ok (.getfield 26, 3) := by decide +kernel
theorem dX12_nextOrder_26 : decode cX12_nextOrder 26 = .ok (.iload_n 2, 1) := by decide +kernel
theorem dX12_nextOrder_27 : decode cX12_nextOrder 27 = .ok (.iconst 1, 1) := by decide +kernel
theorem dX12_nextOrder_28 : decode cX12_nextOrder 28 = .ok (.iadd, 1) := by decide +kernel
theorem dX12_nextOrder_29 : decode cX12_nextOrder 29 = .ok (.iaload, 1) := by decide +kernel
theorem dX12_nextOrder_30 : decode cX12_nextOrder 30 = .ok (.if_icmp .le 9, 3) := by decide +kernel
theorem dX12_nextOrder_33 : decode cX12_nextOrder 33 = .ok (.iinc 2 (-1), 3) := by decide +kernel
theorem dX12_nextOrder_36 : decode cX12_nextOrder 36 = .ok (.goto (-24), 3) := by decide +kernel
theorem dX12_nextOrder_39 : decode cX12_nextOrder 39 = .ok (.iload_n 2, 1) := by decide +kernel
theorem dX12_nextOrder_40 : decode cX12_nextOrder 40 = .ok (.ifCond .ge 5, 3) := by decide +kernel
theorem dX12_nextOrder_43 : decode cX12_nextOrder 43 = .ok (.iconst 0, 1) := by decide +kernel
theorem dX12_nextOrder_44 : decode cX12_nextOrder 44 = .ok (.ireturn, 1) := by decide +kernel
theorem dX12_nextOrder_45 : decode cX12_nextOrder 45 = .ok (.iload_n 1, 1) := by decide +kernel
theorem dX12_nextOrder_46 : decode cX12_nextOrder 46 = .ok (.iconst 1, 1) := by decide +kernel
theorem dX12_nextOrder_47 : decode cX12_nextOrder 47 = .ok (.isub, 1) := by decide +kernel
theorem dX12_nextOrder_48 : decode cX12_nextOrder 48 = .ok (.istore_n 3, 1) := by decide +kernel
theorem dX12_nextOrder_49 : decode cX12_nextOrder 49 = .ok (.aload_n 0, 1) := by decide +kernel
theorem dX12_nextOrder_50 : decode cX12_nextOrder 50 = .ok (.getfield 26, 3) := by decide +kernel
theorem dX12_nextOrder_53 : decode cX12_nextOrder 53 = .ok (.iload_n 3, 1) := by decide +kernel
theorem dX12_nextOrder_54 : decode cX12_nextOrder 54 = .ok (.iaload, 1) := by decide +kernel
theorem dX12_nextOrder_55 : decode cX12_nextOrder 55 = .ok (.aload_n 0, 1) := by decide +kernel
theorem dX12_nextOrder_56 : decode cX12_nextOrder 56 = .ok (.getfield 26, 3) := by decide +kernel
theorem dX12_nextOrder_59 : decode cX12_nextOrder 59 = .ok (.iload_n 2, 1) := by decide +kernel
theorem dX12_nextOrder_60 : decode cX12_nextOrder 60 = .ok (.iaload, 1) := by decide +kernel
theorem dX12_nextOrder_61 : decode cX12_nextOrder 61 = .ok (.if_icmp .ge 9, 3) := by decide +kernel
theorem dX12_nextOrder_64 : decode cX12_nextOrder 64 = .ok (.iinc 3 (-1), 3) := by decide +kernel
theorem dX12_nextOrder_67 : decode cX12_nextOrder 67 = .ok (.goto (-18), 3) := by decide +kernel
theorem dX12_nextOrder_70 : decode cX12_nextOrder 70 = .ok (.aload_n 0, 1) := by decide +kernel
theorem dX12_nextOrder_71 : decode cX12_nextOrder 71 = .ok (.getfield 26, 3) := by decide +kernel
theorem dX12_nextOrder_74 : decode cX12_nextOrder 74 = .ok (.iload_n 2, 1) := by decide +kernel
theorem dX12_nextOrder_75 : decode cX12_nextOrder 75 = .ok (.iaload, 1) := by decide +kernel
theorem dX12_nextOrder_76 : decode cX12_nextOrder 76 = .ok (.istore 4, 2) := by decide +kernel
theorem dX12_nextOrder_78 : decode cX12_nextOrder 78 = .ok (.aload_n 0, 1) := by decide +kernel
theorem dX12_nextOrder_79 : decode cX12_nextOrder 79 = .ok (.getfield 26, 3) := by decide +kernel
theorem dX12_nextOrder_82 : decode cX12_nextOrder 82 = .ok (.iload_n 2, 1) := by decide +kernel
theorem dX12_nextOrder_83 : decode cX12_nextOrder 83 = .ok (.aload_n 0, 1) := by decide +kernel
theorem dX12_nextOrder_84 : decode cX12_nextOrder 84 = .ok (.getfield 26, 3) := by decide +kernel
theorem dX12_nextOrder_87 : decode cX12_nextOrder 87 = .ok (.iload_n 3, 1) := by decide +kernel
theorem dX12_nextOrder_88 : decode cX12_nextOrder 88 = .ok (.iaload, 1) := by decide +kernel
theorem dX12_nextOrder_89 : decode cX12_nextOrder 89 = .ok (.iastore, 1) := by decide +kernel
theorem dX12_nextOrder_90 : decode cX12_nextOrder 90 = .ok (.aload_n 0, 1) := by decide +kernel
theorem dX12_nextOrder_91 : decode cX12_nextOrder 91 = .ok (.getfield 26, 3) := by decide +kernel
theorem dX12_nextOrder_94 : decode cX12_nextOrder 94 = .ok (.iload_n 3, 1) := by decide +kernel
theorem dX12_nextOrder_95 : decode cX12_nextOrder 95 = .ok (.iload 4, 2) := by decide +kernel
theorem dX12_nextOrder_97 : decode cX12_nextOrder 97 = .ok (.iastore, 1) := by decide +kernel
theorem dX12_nextOrder_98 : decode cX12_nextOrder 98 = .ok (.iload_n 2, 1) := by decide +kernel
theorem dX12_nextOrder_99 : decode cX12_nextOrder 99 = .ok (.iconst 1, 1) := by decide +kernel
theorem dX12_nextOrder_100 : decode cX12_nextOrder 100 = .ok (.iadd, 1) := by decide +kernel
theorem dX12_nextOrder_101 : decode cX12_nextOrder 101 = .ok (.istore 5, 2) := by decide +kernel
theorem dX12_nextOrder_103 : decode cX12_nextOrder 103 = .ok (.iload_n 1, 1) := by decide +kernel
theorem dX12_nextOrder_104 : decode cX12_nextOrder 104 = .ok (.iconst 1, 1) := by decide +kernel
theorem dX12_nextOrder_105 : decode cX12_nextOrder 105 = .ok (.isub, 1) := by decide +kernel
theorem dX12_nextOrder_106 : decode cX12_nextOrder 106 = .ok (.istore 6, 2) := by decide +kernel
theorem dX12_nextOrder_108 : decode cX12_nextOrder 108 = .ok (.iload 5, 2) := by decide +kernel
theorem dX12_nextOrder_110 : decode cX12_nextOrder 110 = .ok (.iload 6, 2) := by decide +kernel
theorem dX12_nextOrder_112 : decode cX12_nextOrder 112 = .ok (.if_icmp .ge 44, 3) := by decide +kernel
theorem dX12_nextOrder_115 : decode cX12_nextOrder 115 = .ok (.aload_n 0, 1) := by decide +kernel
theorem dX12_nextOrder_116 : decode cX12_nextOrder 116 = .ok (.getfield 26, 3) := by decide +kernel
theorem dX12_nextOrder_119 : decode cX12_nextOrder 119 = .ok (.iload 5, 2) := by decide +kernel
theorem dX12_nextOrder_121 : decode cX12_nextOrder 121 = .ok (.iaload, 1) := by decide +kernel
theorem dX12_nextOrder_122 : decode cX12_nextOrder 122 = .ok (.istore 4, 2) := by decide +kernel
theorem dX12_nextOrder_124 : decode cX12_nextOrder 124 = .ok (.aload_n 0, 1) := by decide +kernel
theorem dX12_nextOrder_125 : decode cX12_nextOrder 125 = .ok (.getfield 26, 3) := by decide +kernel
theorem dX12_nextOrder_128 : decode cX12_nextOrder 128 = .ok (.iload 5, 2) := by decide +kernel
theorem dX12_nextOrder_130 : decode cX12_nextOrder 130 = .ok (.aload_n 0, 1) := by decide +kernel
theorem dX12_nextOrder_131 : decode cX12_nextOrder 131 = .ok (.getfield 26, 3) := by decide +kernel
theorem dX12_nextOrder_134 : decode cX12_nextOrder 134 = .ok (.iload 6, 2) := by decide +kernel
theorem dX12_nextOrder_136 : decode cX12_nextOrder 136 = .ok (.iaload, 1) := by decide +kernel
theorem dX12_nextOrder_137 : decode cX12_nextOrder 137 = .ok (.iastore, 1) := by decide +kernel
theorem dX12_nextOrder_138 : decode cX12_nextOrder 138 = .ok (.aload_n 0, 1) := by decide +kernel
theorem dX12_nextOrder_139 : decode cX12_nextOrder 139 = .ok (.getfield 26, 3) := by decide +kernel
theorem dX12_nextOrder_142 : decode cX12_nextOrder 142 = .ok (.iload 6, 2) := by decide +kernel
theorem dX12_nextOrder_144 : decode cX12_nextOrder 144 = .ok (.iload 4, 2) := by decide +kernel
theorem dX12_nextOrder_146 : decode cX12_nextOrder 146 = .ok (.iastore, 1) := by decide +kernel
theorem dX12_nextOrder_147 : decode cX12_nextOrder 147 = .ok (.iinc 5 1, 3) := by decide +kernel
theorem dX12_nextOrder_150 : decode cX12_nextOrder 150 = .ok (.iinc 6 (-1), 3) := by decide +kernel
theorem dX12_nextOrder_153 : decode cX12_nextOrder 153 = .ok (.goto (-45), 3) := by decide +kernel
theorem dX12_nextOrder_156 : decode cX12_nextOrder 156 = .ok (.iconst 1, 1) := by decide +kernel
theorem dX12_nextOrder_157 : decode cX12_nextOrder 157 = .ok (.ireturn, 1) := by decide +kernel
theorem dX12_layOrders_0 : decode cX12_layOrders 0 = .ok (.iconst 0, 1) := by decide +kernel
theorem dX12_layOrders_1 : decode cX12_layOrders 1 = .ok (.istore_n 1, 1) := by decide +kernel
theorem dX12_layOrders_2 : decode cX12_layOrders 2 = .ok (.iload_n 1, 1) := by decide +kernel
theorem dX12_layOrders_3 : decode cX12_layOrders 3 = .ok (.bipush 6, 2) := by decide +kernel
theorem dX12_layOrders_5 : decode cX12_layOrders 5 = .ok (.if_icmp .ge 16, 3) := by decide +kernel
theorem dX12_layOrders_8 : decode cX12_layOrders 8 = .ok (.aload_n 0, 1) := by decide +kernel
theorem dX12_layOrders_9 : decode cX12_layOrders 9 = .ok (.getfield 26, 3) := by decide +kernel
theorem dX12_layOrders_12 : decode cX12_layOrders 12 = .ok (.iload_n 1, 1) := by decide +kernel
theorem dX12_layOrders_13 : decode cX12_layOrders 13 = .ok (.iload_n 1, 1) := by decide +kernel
theorem dX12_layOrders_14 : decode cX12_layOrders 14 = .ok (.iastore, 1) := by decide +kernel
theorem dX12_layOrders_15 : decode cX12_layOrders 15 = .ok (.iinc 1 1, 3) := by decide +kernel
theorem dX12_layOrders_18 : decode cX12_layOrders 18 = .ok (.goto (-16), 3) := by decide +kernel
theorem dX12_layOrders_21 : decode cX12_layOrders 21 = .ok (.aload_n 0, 1) := by decide +kernel
theorem dX12_layOrders_22 : decode cX12_layOrders 22 = .ok (.iconst 0, 1) := by decide +kernel
theorem dX12_layOrders_23 : decode cX12_layOrders 23 = .ok (.putfield 125, 3) := by decide +kernel
theorem dX12_layOrders_26 : decode cX12_layOrders 26 = .ok (.aload_n 0, 1) := by decide +kernel
theorem dX12_layOrders_27 : decode cX12_layOrders 27 = .ok (.iconst 0, 1) := by decide +kernel
theorem dX12_layOrders_28 : decode cX12_layOrders 28 = .ok (.putfield 128, 3) := by decide +kernel
theorem dX12_layOrders_31 : decode cX12_layOrders 31 = .ok (.aload_n 0, 1) := by decide +kernel
theorem dX12_layOrders_32 : decode cX12_layOrders 32 = .ok (.iconst (-1), 1) := by decide +kernel
theorem dX12_layOrders_33 : decode cX12_layOrders 33 = .ok (.putfield 131, 3) := by decide +kernel
theorem dX12_layOrders_36 : decode cX12_layOrders 36 = .ok (.iconst 1, 1) := by decide +kernel
theorem dX12_layOrders_37 : decode cX12_layOrders 37 = .ok (.istore_n 1, 1) := by decide +kernel
theorem dX12_layOrders_38 : decode cX12_layOrders 38 = .ok (.iload_n 1, 1) := by decide +kernel
theorem dX12_layOrders_39 : decode cX12_layOrders 39 = .ok (.ifCond .eq 129, 3) := by decide +kernel
theorem dX12_layOrders_42 : decode cX12_layOrders 42 = .ok (.aload_n 0, 1) := by decide +kernel
theorem dX12_layOrders_43 : decode cX12_layOrders 43 = .ok (.invokevirtual 134, 3) := by decide +kernel
theorem dX12_layOrders_46 : decode cX12_layOrders 46 = .ok (.istore_n 2, 1) := by decide +kernel
theorem dX12_layOrders_47 : decode cX12_layOrders 47 = .ok (.aload_n 0, 1) := by decide +kernel
theorem dX12_layOrders_48 : decode cX12_layOrders 48 = .ok (.aload_n 0, 1) := by decide +kernel
theorem dX12_layOrders_49 : decode cX12_layOrders 49 = .ok (.getfield 131, 3) := by decide +kernel
theorem dX12_layOrders_52 : decode cX12_layOrders 52 = .ok (.ifCond .lt 11, 3) := by decide +kernel
theorem dX12_layOrders_55 : decode cX12_layOrders 55 = .ok (.iload_n 2, 1) := by decide +kernel
theorem dX12_layOrders_56 : decode cX12_layOrders 56 = .ok (.aload_n 0, 1) := by decide +kernel
theorem dX12_layOrders_57 : decode cX12_layOrders 57 = .ok (.getfield 131, 3) := by decide +kernel
theorem dX12_layOrders_60 : decode cX12_layOrders 60 = .ok (.if_icmp .ge 7, 3) := by decide +kernel
theorem dX12_layOrders_63 : decode cX12_layOrders 63 = .ok (.iload_n 2, 1) := by decide +kernel
theorem dX12_layOrders_64 : decode cX12_layOrders 64 = .ok (.goto 7, 3) := by decide +kernel
theorem dX12_layOrders_67 : decode cX12_layOrders 67 = .ok (.aload_n 0, 1) := by decide +kernel
theorem dX12_layOrders_68 : decode cX12_layOrders 68 = .ok (.getfield 131, 3) := by decide +kernel
theorem dX12_layOrders_71 : decode cX12_layOrders 71 = .ok (.putfield 131, 3) := by decide +kernel
theorem dX12_layOrders_74 : decode cX12_layOrders 74 = .ok (.iload_n 2, 1) := by decide +kernel
theorem dX12_layOrders_75 : decode cX12_layOrders 75 = .ok (.ifCond .ne 85, 3) := by decide +kernel
theorem dX12_layOrders_78 : decode cX12_layOrders 78 = .ok (.iconst 0, 1) := by decide +kernel
theorem dX12_layOrders_79 : decode cX12_layOrders 79 = .ok (.istore_n 3, 1) := by decide +kernel
theorem dX12_layOrders_80 : decode cX12_layOrders 80 = .ok (.iload_n 3, 1) := by decide +kernel
theorem dX12_layOrders_81 : decode cX12_layOrders 81 = .ok (.bipush 6, 2) := by decide +kernel
theorem dX12_layOrders_83 : decode cX12_layOrders 83 = .ok (.if_icmp .ge 28, 3) := by decide +kernel
theorem dX12_layOrders_86 : decode cX12_layOrders 86 = .ok (.aload_n 0, 1) := by decide +kernel
theorem dX12_layOrders_87 : decode cX12_layOrders 87 = .ok (.getfield 125, 3) := by decide +kernel
theorem dX12_layOrders_90 : decode cX12_layOrders 90 = .ok (.ifCond .ne 21, 3) := by decide +kernel
theorem dX12_layOrders_93 : decode cX12_layOrders 93 = .ok (.aload_n 0, 1) := by decide +kernel
theorem dX12_layOrders_94 : decode cX12_layOrders 94 = .ok (.getfield 29, 3) := by decide +kernel
theorem dX12_layOrders_97 : decode cX12_layOrders 97 = .ok (.iload_n 3, 1) := by decide +kernel
theorem dX12_layOrders_98 : decode cX12_layOrders 98 = .ok (.aload_n 0, 1) := by decide +kernel
theorem dX12_layOrders_99 : decode cX12_layOrders 99 = .ok (.getfield 26, 3) := by decide +kernel
theorem dX12_layOrders_102 : decode cX12_layOrders 102 = .ok (.iload_n 3, 1) := by decide +kernel
theorem dX12_layOrders_103 : decode cX12_layOrders 103 = .ok (.iaload, 1) := by decide +kernel
theorem dX12_layOrders_104 : decode cX12_layOrders 104 = .ok (.iastore, 1) := by decide +kernel
theorem dX12_layOrders_105 : decode cX12_layOrders 105 = .ok (.iinc 3 1, 3) := by decide +kernel
theorem dX12_layOrders_108 : decode cX12_layOrders 108 = .ok (.goto (-28), 3) := by decide +kernel
theorem dX12_layOrders_111 : decode cX12_layOrders 111 = .ok (.aload_n 0, 1) := by decide +kernel
theorem dX12_layOrders_112 : decode cX12_layOrders 112 = .ok (.dup, 1) := by decide +kernel
theorem dX12_layOrders_113 : decode cX12_layOrders 113 = .ok (.getfield 125, 3) := by decide +kernel
theorem dX12_layOrders_116 : decode cX12_layOrders 116 = .ok (.iconst 1, 1) := by decide +kernel
theorem dX12_layOrders_117 : decode cX12_layOrders 117 = .ok (.iadd, 1) := by decide +kernel
theorem dX12_layOrders_118 : decode cX12_layOrders 118 = .ok (.putfield 125, 3) := by decide +kernel
theorem dX12_layOrders_121 : decode cX12_layOrders 121 = .ok (.aload_n 0, 1) := by decide +kernel
theorem dX12_layOrders_122 : decode cX12_layOrders 122 = .ok (.dup, 1) := by decide +kernel
theorem dX12_layOrders_123 : decode cX12_layOrders 123 = .ok (.getfield 128, 3) := by decide +kernel
theorem dX12_layOrders_126 : decode cX12_layOrders 126 = .ok (.aload_n 0, 1) := by decide +kernel
theorem dX12_layOrders_127 : decode cX12_layOrders 127 = .ok (.getfield 7, 3) := by decide +kernel
theorem dX12_layOrders_130 : decode cX12_layOrders 130 = .ok (.bipush 9, 2) := by decide +kernel
theorem dX12_layOrders_132 : decode cX12_layOrders 132 = .ok (.iaload, 1) := by decide +kernel
theorem dX12_layOrders_133 : decode cX12_layOrders 133 = .ok (.ifCond .le 22, 3) := by decide +kernel
theorem dX12_layOrders_136 : decode cX12_layOrders 136 = .ok (.iconst 1, 1) := by decide +kernel
theorem dX12_layOrders_137 : decode cX12_layOrders 137 = .ok (.aload_n 0, 1) := by decide +kernel
theorem dX12_layOrders_138 : decode cX12_layOrders 138 = .ok (.getfield 26, 3) := by decide +kernel
theorem dX12_layOrders_141 : decode cX12_layOrders 141 = .ok (.aload_n 0, 1) := by decide +kernel
theorem dX12_layOrders_142 : decode cX12_layOrders 142 = .ok (.getfield 7, 3) := by decide +kernel
theorem dX12_layOrders_145 : decode cX12_layOrders 145 = .ok (.bipush 9, 2) := by decide +kernel
theorem dX12_layOrders_147 : decode cX12_layOrders 147 = .ok (.iaload, 1) := by decide +kernel
theorem dX12_layOrders_148 : decode cX12_layOrders 148 = .ok (.iconst 1, 1) := by decide +kernel
theorem dX12_layOrders_149 : decode cX12_layOrders 149 = .ok (.isub, 1) := by decide +kernel
theorem dX12_layOrders_150 : decode cX12_layOrders 150 = .ok (.iaload, 1) := by decide +kernel
theorem dX12_layOrders_151 : decode cX12_layOrders 151 = .ok (.ishl, 1) := by decide +kernel
theorem dX12_layOrders_152 : decode cX12_layOrders 152 = .ok (.goto 4, 3) := by decide +kernel
theorem dX12_layOrders_155 : decode cX12_layOrders 155 = .ok (.iconst 0, 1) := by decide +kernel
theorem dX12_layOrders_156 : decode cX12_layOrders 156 = .ok (.ior, 1) := by decide +kernel
theorem dX12_layOrders_157 : decode cX12_layOrders 157 = .ok (.putfield 128, 3) := by decide +kernel
theorem dX12_layOrders_160 : decode cX12_layOrders 160 = .ok (.aload_n 0, 1) := by decide +kernel
theorem dX12_layOrders_161 : decode cX12_layOrders 161 = .ok (.invokevirtual 138, 3) := by decide +kernel
theorem dX12_layOrders_164 : decode cX12_layOrders 164 = .ok (.istore_n 1, 1) := by decide +kernel
theorem dX12_layOrders_165 : decode cX12_layOrders 165 = .ok (.goto (-127), 3) := by decide +kernel
theorem dX12_layOrders_168 : decode cX12_layOrders 168 = .ok (.return_, 1) := by decide +kernel
theorem dX12_carryPlan_0 : decode cX12_carryPlan 0 = .ok (.aload_n 0, 1) := by decide +kernel
theorem dX12_carryPlan_1 : decode cX12_carryPlan 1 = .ok (.invokevirtual 142, 3) := by decide +kernel
theorem dX12_carryPlan_4 : decode cX12_carryPlan 4 = .ok (.aload_n 0, 1) := by decide +kernel
theorem dX12_carryPlan_5 : decode cX12_carryPlan 5 = .ok (.getfield 7, 3) := by decide +kernel
theorem dX12_carryPlan_8 : decode cX12_carryPlan 8 = .ok (.bipush 9, 2) := by decide +kernel
theorem dX12_carryPlan_10 : decode cX12_carryPlan 10 = .ok (.iaload, 1) := by decide +kernel
theorem dX12_carryPlan_11 : decode cX12_carryPlan 11 = .ok (.ifCond .eq 10, 3) := by decide +kernel
theorem dX12_carryPlan_14 : decode cX12_carryPlan 14 = .ok (.aload_n 0, 1) := by decide +kernel
theorem dX12_carryPlan_15 : decode cX12_carryPlan 15 = .ok (.getfield 125, 3) := by decide +kernel
theorem dX12_carryPlan_18 : decode cX12_carryPlan 18 = .ok (.ifCond .ne 6, 3) := by decide +kernel
theorem dX12_carryPlan_21 : decode cX12_carryPlan 21 = .ok (.bipush (-5), 2) := by decide +kernel
theorem dX12_carryPlan_23 : decode cX12_carryPlan 23 = .ok (.ireturn, 1) := by decide +kernel
theorem dX12_carryPlan_24 : decode cX12_carryPlan 24 = .ok (.aload_n 0, 1) := by decide +kernel
theorem dX12_carryPlan_25 : decode cX12_carryPlan 25 = .ok (.invokevirtual 53, 3) := by decide +kernel
theorem dX12_carryPlan_28 : decode cX12_carryPlan 28 = .ok (.iconst 0, 1) := by decide +kernel
theorem dX12_carryPlan_29 : decode cX12_carryPlan 29 = .ok (.istore_n 1, 1) := by decide +kernel
theorem dX12_carryPlan_30 : decode cX12_carryPlan 30 = .ok (.iload_n 1, 1) := by decide +kernel
theorem dX12_carryPlan_31 : decode cX12_carryPlan 31 = .ok (.aload_n 0, 1) := by decide +kernel
theorem dX12_carryPlan_32 : decode cX12_carryPlan 32 = .ok (.getfield 7, 3) := by decide +kernel
theorem dX12_carryPlan_35 : decode cX12_carryPlan 35 = .ok (.bipush 9, 2) := by decide +kernel
theorem dX12_carryPlan_37 : decode cX12_carryPlan 37 = .ok (.iaload, 1) := by decide +kernel
theorem dX12_carryPlan_38 : decode cX12_carryPlan 38 = .ok (.if_icmp .ge 48, 3) := by decide +kernel
theorem dX12_carryPlan_41 : decode cX12_carryPlan 41 = .ok (.sipush 150, 3) := by decide +kernel
theorem dX12_carryPlan_44 : decode cX12_carryPlan 44 = .ok (.iconst 3, 1) := by decide +kernel
theorem dX12_carryPlan_45 : decode cX12_carryPlan 45 = .ok (.aload_n 0, 1) := by decide +kernel
theorem dX12_carryPlan_46 : decode cX12_carryPlan 46 = .ok (.getfield 29, 3) := by decide +kernel
theorem dX12_carryPlan_49 : decode cX12_carryPlan 49 = .ok (.iload_n 1, 1) := by decide +kernel
theorem dX12_carryPlan_50 : decode cX12_carryPlan 50 = .ok (.iaload, 1) := by decide +kernel
theorem dX12_carryPlan_51 : decode cX12_carryPlan 51 = .ok (.imul, 1) := by decide +kernel
theorem dX12_carryPlan_52 : decode cX12_carryPlan 52 = .ok (.iadd, 1) := by decide +kernel
theorem dX12_carryPlan_53 : decode cX12_carryPlan 53 = .ok (.istore_n 2, 1) := by decide +kernel
theorem dX12_carryPlan_54 : decode cX12_carryPlan 54 = .ok (.aload_n 0, 1) := by decide +kernel
theorem dX12_carryPlan_55 : decode cX12_carryPlan 55 = .ok (.aload_n 0, 1) := by decide +kernel
theorem dX12_carryPlan_56 : decode cX12_carryPlan 56 = .ok (.getfield 7, 3) := by decide +kernel
theorem dX12_carryPlan_59 : decode cX12_carryPlan 59 = .ok (.iload_n 2, 1) := by decide +kernel
theorem dX12_carryPlan_60 : decode cX12_carryPlan 60 = .ok (.iaload, 1) := by decide +kernel
theorem dX12_carryPlan_61 : decode cX12_carryPlan 61 = .ok (.aload_n 0, 1) := by decide +kernel
theorem dX12_carryPlan_62 : decode cX12_carryPlan 62 = .ok (.getfield 7, 3) := by decide +kernel
theorem dX12_carryPlan_65 : decode cX12_carryPlan 65 = .ok (.iload_n 2, 1) := by decide +kernel
theorem dX12_carryPlan_66 : decode cX12_carryPlan 66 = .ok (.iconst 1, 1) := by decide +kernel
theorem dX12_carryPlan_67 : decode cX12_carryPlan 67 = .ok (.iadd, 1) := by decide +kernel
theorem dX12_carryPlan_68 : decode cX12_carryPlan 68 = .ok (.iaload, 1) := by decide +kernel
theorem dX12_carryPlan_69 : decode cX12_carryPlan 69 = .ok (.aload_n 0, 1) := by decide +kernel
theorem dX12_carryPlan_70 : decode cX12_carryPlan 70 = .ok (.getfield 7, 3) := by decide +kernel
theorem dX12_carryPlan_73 : decode cX12_carryPlan 73 = .ok (.iload_n 2, 1) := by decide +kernel
theorem dX12_carryPlan_74 : decode cX12_carryPlan 74 = .ok (.iconst 2, 1) := by decide +kernel
theorem dX12_carryPlan_75 : decode cX12_carryPlan 75 = .ok (.iadd, 1) := by decide +kernel
theorem dX12_carryPlan_76 : decode cX12_carryPlan 76 = .ok (.iaload, 1) := by decide +kernel
theorem dX12_carryPlan_77 : decode cX12_carryPlan 77 = .ok (.invokevirtual 83, 3) := by decide +kernel
theorem dX12_carryPlan_80 : decode cX12_carryPlan 80 = .ok (.iinc 1 1, 3) := by decide +kernel
theorem dX12_carryPlan_83 : decode cX12_carryPlan 83 = .ok (.goto (-53), 3) := by decide +kernel
theorem dX12_carryPlan_86 : decode cX12_carryPlan 86 = .ok (.aload_n 0, 1) := by decide +kernel
theorem dX12_carryPlan_87 : decode cX12_carryPlan 87 = .ok (.getfield 7, 3) := by decide +kernel
theorem dX12_carryPlan_90 : decode cX12_carryPlan 90 = .ok (.bipush 9, 2) := by decide +kernel
theorem dX12_carryPlan_92 : decode cX12_carryPlan 92 = .ok (.iconst 0, 1) := by decide +kernel
theorem dX12_carryPlan_93 : decode cX12_carryPlan 93 = .ok (.iastore, 1) := by decide +kernel
theorem dX12_carryPlan_94 : decode cX12_carryPlan 94 = .ok (.aload_n 0, 1) := by decide +kernel
theorem dX12_carryPlan_95 : decode cX12_carryPlan 95 = .ok (.getfield 7, 3) := by decide +kernel
theorem dX12_carryPlan_98 : decode cX12_carryPlan 98 = .ok (.bipush 7, 2) := by decide +kernel
theorem dX12_carryPlan_100 : decode cX12_carryPlan 100 = .ok (.iaload, 1) := by decide +kernel
theorem dX12_carryPlan_101 : decode cX12_carryPlan 101 = .ok (.ireturn, 1) := by decide +kernel
theorem dX12_keysFor_0 : decode cX12_keysFor 0 = .ok (.iconst 0, 1) := by decide +kernel
theorem dX12_keysFor_1 : decode cX12_keysFor 1 = .ok (.istore_n 2, 1) := by decide +kernel
theorem dX12_keysFor_2 : decode cX12_keysFor 2 = .ok (.iconst 0, 1) := by decide +kernel
theorem dX12_keysFor_3 : decode cX12_keysFor 3 = .ok (.istore_n 3, 1) := by decide +kernel
theorem dX12_keysFor_4 : decode cX12_keysFor 4 = .ok (.iload_n 3, 1) := by decide +kernel
theorem dX12_keysFor_5 : decode cX12_keysFor 5 = .ok (.aload_n 0, 1) := by decide +kernel
theorem dX12_keysFor_6 : decode cX12_keysFor 6 = .ok (.getfield 7, 3) := by decide +kernel
theorem dX12_keysFor_9 : decode cX12_keysFor 9 = .ok (.iconst 5, 1) := by decide +kernel
theorem dX12_keysFor_10 : decode cX12_keysFor 10 = .ok (.iaload, 1) := by decide +kernel
theorem dX12_keysFor_11 : decode cX12_keysFor 11 = .ok (.if_icmp .ge 42, 3) := by decide +kernel
theorem dX12_keysFor_14 : decode cX12_keysFor 14 = .ok (.iload_n 2, 1) := by decide +kernel
theorem dX12_keysFor_15 : decode cX12_keysFor 15 = .ok (.aload_n 0, 1) := by decide +kernel
theorem dX12_keysFor_16 : decode cX12_keysFor 16 = .ok (.iload_n 3, 1) := by decide +kernel
theorem dX12_keysFor_17 : decode cX12_keysFor 17 = .ok (.invokevirtual 87, 3) := by decide +kernel
theorem dX12_keysFor_20 : decode cX12_keysFor 20 = .ok (.bipush 9, 2) := by decide +kernel
theorem dX12_keysFor_22 : decode cX12_keysFor 22 = .ok (.if_icmp .eq 22, 3) := by decide +kernel
theorem dX12_keysFor_25 : decode cX12_keysFor 25 = .ok (.aload_n 0, 1) := by decide +kernel
theorem dX12_keysFor_26 : decode cX12_keysFor 26 = .ok (.aload_n 0, 1) := by decide +kernel
theorem dX12_keysFor_27 : decode cX12_keysFor 27 = .ok (.iload_n 3, 1) := by decide +kernel
theorem dX12_keysFor_28 : decode cX12_keysFor 28 = .ok (.invokevirtual 90, 3) := by decide +kernel
theorem dX12_keysFor_31 : decode cX12_keysFor 31 = .ok (.iload_n 1, 1) := by decide +kernel
theorem dX12_keysFor_32 : decode cX12_keysFor 32 = .ok (.invokevirtual 112, 3) := by decide +kernel
theorem dX12_keysFor_35 : decode cX12_keysFor 35 = .ok (.ifCond .eq 9, 3) := by decide +kernel
theorem dX12_keysFor_38 : decode cX12_keysFor 38 = .ok (.iconst 1, 1) := by decide +kernel
theorem dX12_keysFor_39 : decode cX12_keysFor 39 = .ok (.iload_n 3, 1) := by decide +kernel
theorem dX12_keysFor_40 : decode cX12_keysFor 40 = .ok (.ishl, 1) := by decide +kernel
theorem dX12_keysFor_41 : decode cX12_keysFor 41 = .ok (.goto 4, 3) := by decide +kernel
theorem dX12_keysFor_44 : decode cX12_keysFor 44 = .ok (.iconst 0, 1) := by decide +kernel
theorem dX12_keysFor_45 : decode cX12_keysFor 45 = .ok (.ior, 1) := by decide +kernel
theorem dX12_keysFor_46 : decode cX12_keysFor 46 = .ok (.istore_n 2, 1) := by decide +kernel
theorem dX12_keysFor_47 : decode cX12_keysFor 47 = .ok (.iinc 3 1, 3) := by decide +kernel
theorem dX12_keysFor_50 : decode cX12_keysFor 50 = .ok (.goto (-46), 3) := by decide +kernel
theorem dX12_keysFor_53 : decode cX12_keysFor 53 = .ok (.iload_n 2, 1) := by decide +kernel
theorem dX12_keysFor_54 : decode cX12_keysFor 54 = .ok (.ireturn, 1) := by decide +kernel
theorem dX12_ofDoor_0 : decode cX12_ofDoor 0 = .ok (.aload_n 0, 1) := by decide +kernel
theorem dX12_ofDoor_1 : decode cX12_ofDoor 1 = .ok (.iload_n 1, 1) := by decide +kernel
theorem dX12_ofDoor_2 : decode cX12_ofDoor 2 = .ok (.invokevirtual 80, 3) := by decide +kernel
theorem dX12_ofDoor_5 : decode cX12_ofDoor 5 = .ok (.ifCond .ne 5, 3) := by decide +kernel
theorem dX12_ofDoor_8 : decode cX12_ofDoor 8 = .ok (.iconst (-1), 1) := by decide +kernel
theorem dX12_ofDoor_9 : decode cX12_ofDoor 9 = .ok (.ireturn, 1) := by decide +kernel
theorem dX12_ofDoor_10 : decode cX12_ofDoor 10 = .ok (.iload_n 2, 1) := by decide +kernel
theorem dX12_ofDoor_11 : decode cX12_ofDoor 11 = .ok (.tableswitch 54 4 7 #[29, 35, 42, 48], 29) := by decide +kernel
theorem dX12_ofDoor_40 : decode cX12_ofDoor 40 = .ok (.aload_n 0, 1) := by decide +kernel
theorem dX12_ofDoor_41 : decode cX12_ofDoor 41 = .ok (.iload_n 1, 1) := by decide +kernel
theorem dX12_ofDoor_42 : decode cX12_ofDoor 42 = .ok (.invokevirtual 70, 3) := by decide +kernel
theorem dX12_ofDoor_45 : decode cX12_ofDoor 45 = .ok (.ireturn, 1) := by decide +kernel
theorem dX12_ofDoor_46 : decode cX12_ofDoor 46 = .ok (.aload_n 0, 1) := by decide +kernel
theorem dX12_ofDoor_47 : decode cX12_ofDoor 47 = .ok (.iload_n 1, 1) := by decide +kernel
theorem dX12_ofDoor_48 : decode cX12_ofDoor 48 = .ok (.iconst 4, 1) := by decide +kernel
theorem dX12_ofDoor_49 : decode cX12_ofDoor 49 = .ok (.invokevirtual 67, 3) := by decide +kernel
theorem dX12_ofDoor_52 : decode cX12_ofDoor 52 = .ok (.ireturn, 1) := by decide +kernel
theorem dX12_ofDoor_53 : decode cX12_ofDoor 53 = .ok (.aload_n 0, 1) := by decide +kernel
theorem dX12_ofDoor_54 : decode cX12_ofDoor 54 = .ok (.iload_n 1, 1) := by decide +kernel
theorem dX12_ofDoor_55 : decode cX12_ofDoor 55 = .ok (.invokevirtual 145, 3) := by decide +kernel
theorem dX12_ofDoor_58 : decode cX12_ofDoor 58 = .ok (.ireturn, 1) := by decide +kernel
theorem dX12_ofDoor_59 : decode cX12_ofDoor 59 = .ok (.aload_n 0, 1) := by decide +kernel
theorem dX12_ofDoor_60 : decode cX12_ofDoor 60 = .ok (.iload_n 1, 1) := by decide +kernel
theorem dX12_ofDoor_61 : decode cX12_ofDoor 61 = .ok (.invokevirtual 122, 3) := by decide +kernel
theorem dX12_ofDoor_64 : decode cX12_ofDoor 64 = .ok (.ireturn, 1) := by decide +kernel
theorem dX12_ofDoor_65 : decode cX12_ofDoor 65 = .ok (.iload_n 2, 1) := by decide +kernel
theorem dX12_ofDoor_66 : decode cX12_ofDoor 66 = .ok (.iconst 0, 1) := by decide +kernel
theorem dX12_ofDoor_67 : decode cX12_ofDoor 67 = .ok (.iconst 3, 1) := by decide +kernel
theorem dX12_ofDoor_68 : decode cX12_ofDoor 68 = .ok (.invokestatic 41, 3) := by decide +kernel
theorem dX12_ofDoor_71 : decode cX12_ofDoor 71 = .ok (.ifCond .eq 12, 3) := by decide +kernel
theorem dX12_ofDoor_74 : decode cX12_ofDoor 74 = .ok (.aload_n 0, 1) := by decide +kernel
theorem dX12_ofDoor_75 : decode cX12_ofDoor 75 = .ok (.iload_n 1, 1) := by decide +kernel
theorem dX12_ofDoor_76 : decode cX12_ofDoor 76 = .ok (.iload_n 2, 1) := by decide +kernel
theorem dX12_ofDoor_77 : decode cX12_ofDoor 77 = .ok (.invokevirtual 67, 3) := by decide +kernel
theorem dX12_ofDoor_80 : decode cX12_ofDoor 80 = .ok (.goto 5, 3) := by decide +kernel
theorem dX12_ofDoor_83 : decode cX12_ofDoor 83 = .ok (.bipush (-2), 2) := by decide +kernel
theorem dX12_ofDoor_85 : decode cX12_ofDoor 85 = .ok (.ireturn, 1) := by decide +kernel
theorem dX12_doorsOf_0 : decode cX12_doorsOf 0 = .ok (.iconst 0, 1) := by decide +kernel
theorem dX12_doorsOf_1 : decode cX12_doorsOf 1 = .ok (.istore_n 2, 1) := by decide +kernel
theorem dX12_doorsOf_2 : decode cX12_doorsOf 2 = .ok (.iconst 0, 1) := by decide +kernel
theorem dX12_doorsOf_3 : decode cX12_doorsOf 3 = .ok (.istore_n 3, 1) := by decide +kernel
theorem dX12_doorsOf_4 : decode cX12_doorsOf 4 = .ok (.iload_n 3, 1) := by decide +kernel
theorem dX12_doorsOf_5 : decode cX12_doorsOf 5 = .ok (.aload_n 0, 1) := by decide +kernel
theorem dX12_doorsOf_6 : decode cX12_doorsOf 6 = .ok (.getfield 7, 3) := by decide +kernel
theorem dX12_doorsOf_9 : decode cX12_doorsOf 9 = .ok (.iconst 4, 1) := by decide +kernel
theorem dX12_doorsOf_10 : decode cX12_doorsOf 10 = .ok (.iaload, 1) := by decide +kernel
theorem dX12_doorsOf_11 : decode cX12_doorsOf 11 = .ok (.if_icmp .ge 42, 3) := by decide +kernel
theorem dX12_doorsOf_14 : decode cX12_doorsOf 14 = .ok (.iload_n 2, 1) := by decide +kernel
theorem dX12_doorsOf_15 : decode cX12_doorsOf 15 = .ok (.aload_n 0, 1) := by decide +kernel
theorem dX12_doorsOf_16 : decode cX12_doorsOf 16 = .ok (.iload_n 1, 1) := by decide +kernel
theorem dX12_doorsOf_17 : decode cX12_doorsOf 17 = .ok (.invokevirtual 87, 3) := by decide +kernel
theorem dX12_doorsOf_20 : decode cX12_doorsOf 20 = .ok (.bipush 9, 2) := by decide +kernel
theorem dX12_doorsOf_22 : decode cX12_doorsOf 22 = .ok (.if_icmp .eq 22, 3) := by decide +kernel
theorem dX12_doorsOf_25 : decode cX12_doorsOf 25 = .ok (.aload_n 0, 1) := by decide +kernel
theorem dX12_doorsOf_26 : decode cX12_doorsOf 26 = .ok (.aload_n 0, 1) := by decide +kernel
theorem dX12_doorsOf_27 : decode cX12_doorsOf 27 = .ok (.iload_n 1, 1) := by decide +kernel
theorem dX12_doorsOf_28 : decode cX12_doorsOf 28 = .ok (.invokevirtual 90, 3) := by decide +kernel
theorem dX12_doorsOf_31 : decode cX12_doorsOf 31 = .ok (.iload_n 3, 1) := by decide +kernel
theorem dX12_doorsOf_32 : decode cX12_doorsOf 32 = .ok (.invokevirtual 112, 3) := by decide +kernel
theorem dX12_doorsOf_35 : decode cX12_doorsOf 35 = .ok (.ifCond .eq 9, 3) := by decide +kernel
theorem dX12_doorsOf_38 : decode cX12_doorsOf 38 = .ok (.iconst 1, 1) := by decide +kernel
theorem dX12_doorsOf_39 : decode cX12_doorsOf 39 = .ok (.iload_n 3, 1) := by decide +kernel
theorem dX12_doorsOf_40 : decode cX12_doorsOf 40 = .ok (.ishl, 1) := by decide +kernel
theorem dX12_doorsOf_41 : decode cX12_doorsOf 41 = .ok (.goto 4, 3) := by decide +kernel
theorem dX12_doorsOf_44 : decode cX12_doorsOf 44 = .ok (.iconst 0, 1) := by decide +kernel
theorem dX12_doorsOf_45 : decode cX12_doorsOf 45 = .ok (.ior, 1) := by decide +kernel
theorem dX12_doorsOf_46 : decode cX12_doorsOf 46 = .ok (.istore_n 2, 1) := by decide +kernel
theorem dX12_doorsOf_47 : decode cX12_doorsOf 47 = .ok (.iinc 3 1, 3) := by decide +kernel
theorem dX12_doorsOf_50 : decode cX12_doorsOf 50 = .ok (.goto (-46), 3) := by decide +kernel
theorem dX12_doorsOf_53 : decode cX12_doorsOf 53 = .ok (.iload_n 2, 1) := by decide +kernel
theorem dX12_doorsOf_54 : decode cX12_doorsOf 54 = .ok (.ireturn, 1) := by decide +kernel
theorem dX12_ofKey_0 : decode cX12_ofKey 0 = .ok (.aload_n 0, 1) := by decide +kernel
theorem dX12_ofKey_1 : decode cX12_ofKey 1 = .ok (.iload_n 1, 1) := by decide +kernel
theorem dX12_ofKey_2 : decode cX12_ofKey 2 = .ok (.invokevirtual 99, 3) := by decide +kernel
theorem dX12_ofKey_5 : decode cX12_ofKey 5 = .ok (.ifCond .ne 5, 3) := by decide +kernel
theorem dX12_ofKey_8 : decode cX12_ofKey 8 = .ok (.iconst (-1), 1) := by decide +kernel
theorem dX12_ofKey_9 : decode cX12_ofKey 9 = .ok (.ireturn, 1) := by decide +kernel
theorem dX12_ofKey_10 : decode cX12_ofKey 10 = .ok (.iload_n 2, 1) := by decide +kernel
theorem dX12_ofKey_11 : decode cX12_ofKey 11 = .ok (.ifCond .ne 11, 3) := by decide +kernel
theorem dX12_ofKey_14 : decode cX12_ofKey 14 = .ok (.aload_n 0, 1) := by decide +kernel
theorem dX12_ofKey_15 : decode cX12_ofKey 15 = .ok (.iload_n 1, 1) := by decide +kernel
theorem dX12_ofKey_16 : decode cX12_ofKey 16 = .ok (.invokevirtual 90, 3) := by decide +kernel
theorem dX12_ofKey_19 : decode cX12_ofKey 19 = .ok (.goto 44, 3) := by decide +kernel
theorem dX12_ofKey_22 : decode cX12_ofKey 22 = .ok (.iload_n 2, 1) := by decide +kernel
theorem dX12_ofKey_23 : decode cX12_ofKey 23 = .ok (.iconst 1, 1) := by decide +kernel
theorem dX12_ofKey_24 : decode cX12_ofKey 24 = .ok (.if_icmp .ne 11, 3) := by decide +kernel
theorem dX12_ofKey_27 : decode cX12_ofKey 27 = .ok (.aload_n 0, 1) := by decide +kernel
theorem dX12_ofKey_28 : decode cX12_ofKey 28 = .ok (.iload_n 1, 1) := by decide +kernel
theorem dX12_ofKey_29 : decode cX12_ofKey 29 = .ok (.invokevirtual 102, 3) := by decide +kernel
theorem dX12_ofKey_32 : decode cX12_ofKey 32 = .ok (.goto 31, 3) := by decide +kernel
theorem dX12_ofKey_35 : decode cX12_ofKey 35 = .ok (.iload_n 2, 1) := by decide +kernel
theorem dX12_ofKey_36 : decode cX12_ofKey 36 = .ok (.iconst 2, 1) := by decide +kernel
theorem dX12_ofKey_37 : decode cX12_ofKey 37 = .ok (.if_icmp .ne 11, 3) := by decide +kernel
theorem dX12_ofKey_40 : decode cX12_ofKey 40 = .ok (.aload_n 0, 1) := by decide +kernel
theorem dX12_ofKey_41 : decode cX12_ofKey 41 = .ok (.iload_n 1, 1) := by decide +kernel
theorem dX12_ofKey_42 : decode cX12_ofKey 42 = .ok (.invokevirtual 87, 3) := by decide +kernel
theorem dX12_ofKey_45 : decode cX12_ofKey 45 = .ok (.goto 18, 3) := by decide +kernel
theorem dX12_ofKey_48 : decode cX12_ofKey 48 = .ok (.iload_n 2, 1) := by decide +kernel
theorem dX12_ofKey_49 : decode cX12_ofKey 49 = .ok (.iconst 3, 1) := by decide +kernel
theorem dX12_ofKey_50 : decode cX12_ofKey 50 = .ok (.if_icmp .ne 11, 3) := by decide +kernel
theorem dX12_ofKey_53 : decode cX12_ofKey 53 = .ok (.aload_n 0, 1) := by decide +kernel
theorem dX12_ofKey_54 : decode cX12_ofKey 54 = .ok (.iload_n 1, 1) := by decide +kernel
theorem dX12_ofKey_55 : decode cX12_ofKey 55 = .ok (.invokevirtual 148, 3) := by decide +kernel
theorem dX12_ofKey_58 : decode cX12_ofKey 58 = .ok (.goto 5, 3) := by decide +kernel
theorem dX12_ofKey_61 : decode cX12_ofKey 61 = .ok (.bipush (-2), 2) := by decide +kernel
theorem dX12_ofKey_63 : decode cX12_ofKey 63 = .ok (.ireturn, 1) := by decide +kernel
theorem dX12_inLocks_0 : decode cX12_inLocks 0 = .ok (.iconst 0, 1) := by decide +kernel
theorem dX12_inLocks_1 : decode cX12_inLocks 1 = .ok (.istore_n 1, 1) := by decide +kernel
theorem dX12_inLocks_2 : decode cX12_inLocks 2 = .ok (.iconst 0, 1) := by decide +kernel
theorem dX12_inLocks_3 : decode cX12_inLocks 3 = .ok (.istore_n 2, 1) := by decide +kernel
theorem dX12_inLocks_4 : decode cX12_inLocks 4 = .ok (.iload_n 2, 1) := by decide +kernel
theorem dX12_inLocks_5 : decode cX12_inLocks 5 = .ok (.aload_n 0, 1) := by decide +kernel
theorem dX12_inLocks_6 : decode cX12_inLocks 6 = .ok (.getfield 7, 3) := by decide +kernel
theorem dX12_inLocks_9 : decode cX12_inLocks 9 = .ok (.iconst 4, 1) := by decide +kernel
theorem dX12_inLocks_10 : decode cX12_inLocks 10 = .ok (.iaload, 1) := by decide +kernel
theorem dX12_inLocks_11 : decode cX12_inLocks 11 = .ok (.if_icmp .ge 17, 3) := by decide +kernel
theorem dX12_inLocks_14 : decode cX12_inLocks 14 = .ok (.iload_n 1, 1) := by decide +kernel
theorem dX12_inLocks_15 : decode cX12_inLocks 15 = .ok (.aload_n 0, 1) := by decide +kernel
theorem dX12_inLocks_16 : decode cX12_inLocks 16 = .ok (.iload_n 2, 1) := by decide +kernel
theorem dX12_inLocks_17 : decode cX12_inLocks 17 = .ok (.invokevirtual 70, 3) := by decide +kernel
theorem dX12_inLocks_20 : decode cX12_inLocks 20 = .ok (.iadd, 1) := by decide +kernel
theorem dX12_inLocks_21 : decode cX12_inLocks 21 = .ok (.istore_n 1, 1) := by decide +kernel
theorem dX12_inLocks_22 : decode cX12_inLocks 22 = .ok (.iinc 2 1, 3) := by decide +kernel
theorem dX12_inLocks_25 : decode cX12_inLocks 25 = .ok (.goto (-21), 3) := by decide +kernel
theorem dX12_inLocks_28 : decode cX12_inLocks 28 = .ok (.iload_n 1, 1) := by decide +kernel
theorem dX12_inLocks_29 : decode cX12_inLocks 29 = .ok (.ireturn, 1) := by decide +kernel
theorem dX12_inKeys_0 : decode cX12_inKeys 0 = .ok (.iconst 0, 1) := by decide +kernel
theorem dX12_inKeys_1 : decode cX12_inKeys 1 = .ok (.istore_n 1, 1) := by decide +kernel
theorem dX12_inKeys_2 : decode cX12_inKeys 2 = .ok (.iconst 0, 1) := by decide +kernel
theorem dX12_inKeys_3 : decode cX12_inKeys 3 = .ok (.istore_n 2, 1) := by decide +kernel
theorem dX12_inKeys_4 : decode cX12_inKeys 4 = .ok (.iload_n 2, 1) := by decide +kernel
theorem dX12_inKeys_5 : decode cX12_inKeys 5 = .ok (.aload_n 0, 1) := by decide +kernel
theorem dX12_inKeys_6 : decode cX12_inKeys 6 = .ok (.getfield 7, 3) := by decide +kernel
theorem dX12_inKeys_9 : decode cX12_inKeys 9 = .ok (.iconst 5, 1) := by decide +kernel
theorem dX12_inKeys_10 : decode cX12_inKeys 10 = .ok (.iaload, 1) := by decide +kernel
theorem dX12_inKeys_11 : decode cX12_inKeys 11 = .ok (.if_icmp .ge 17, 3) := by decide +kernel
theorem dX12_inKeys_14 : decode cX12_inKeys 14 = .ok (.iload_n 1, 1) := by decide +kernel
theorem dX12_inKeys_15 : decode cX12_inKeys 15 = .ok (.aload_n 0, 1) := by decide +kernel
theorem dX12_inKeys_16 : decode cX12_inKeys 16 = .ok (.iload_n 2, 1) := by decide +kernel
theorem dX12_inKeys_17 : decode cX12_inKeys 17 = .ok (.invokevirtual 102, 3) := by decide +kernel
theorem dX12_inKeys_20 : decode cX12_inKeys 20 = .ok (.iadd, 1) := by decide +kernel
theorem dX12_inKeys_21 : decode cX12_inKeys 21 = .ok (.istore_n 1, 1) := by decide +kernel
theorem dX12_inKeys_22 : decode cX12_inKeys 22 = .ok (.iinc 2 1, 3) := by decide +kernel
theorem dX12_inKeys_25 : decode cX12_inKeys 25 = .ok (.goto (-21), 3) := by decide +kernel
theorem dX12_inKeys_28 : decode cX12_inKeys 28 = .ok (.iload_n 1, 1) := by decide +kernel
theorem dX12_inKeys_29 : decode cX12_inKeys 29 = .ok (.ireturn, 1) := by decide +kernel
theorem dX12_count_0 : decode cX12_count 0 = .ok (.iload_n 1, 1) := by decide +kernel
theorem dX12_count_1 : decode cX12_count 1 = .ok (.bipush 13, 2) := by decide +kernel
theorem dX12_count_3 : decode cX12_count 3 = .ok (.bipush 15, 2) := by decide +kernel
theorem dX12_count_5 : decode cX12_count 5 = .ok (.invokestatic 41, 3) := by decide +kernel
theorem dX12_count_8 : decode cX12_count 8 = .ok (.ifCond .eq 13, 3) := by decide +kernel
theorem dX12_count_11 : decode cX12_count 11 = .ok (.aload_n 0, 1) := by decide +kernel
theorem dX12_count_12 : decode cX12_count 12 = .ok (.getfield 7, 3) := by decide +kernel
theorem dX12_count_15 : decode cX12_count 15 = .ok (.iload_n 1, 1) := by decide +kernel
theorem dX12_count_16 : decode cX12_count 16 = .ok (.bipush 13, 2) := by decide +kernel
theorem dX12_count_18 : decode cX12_count 18 = .ok (.isub, 1) := by decide +kernel
theorem dX12_count_19 : decode cX12_count 19 = .ok (.iaload, 1) := by decide +kernel
theorem dX12_count_20 : decode cX12_count 20 = .ok (.ireturn, 1) := by decide +kernel
theorem dX12_count_21 : decode cX12_count 21 = .ok (.iload_n 1, 1) := by decide +kernel
theorem dX12_count_22 : decode cX12_count 22 = .ok (.tableswitch 126 0 11 #[62, 69, 76, 83, 90, 98, 103, 108, 108, 108, 108, 121], 62) := by decide +kernel
theorem dX12_count_84 : decode cX12_count 84 = .ok (.aload_n 0, 1) := by decide +kernel
theorem dX12_count_85 : decode cX12_count 85 = .ok (.getfield 7, 3) := by decide +kernel
theorem dX12_count_88 : decode cX12_count 88 = .ok (.iconst 3, 1) := by decide +kernel
theorem dX12_count_89 : decode cX12_count 89 = .ok (.iaload, 1) := by decide +kernel
theorem dX12_count_90 : decode cX12_count 90 = .ok (.ireturn, 1) := by decide +kernel
theorem dX12_count_91 : decode cX12_count 91 = .ok (.aload_n 0, 1) := by decide +kernel
theorem dX12_count_92 : decode cX12_count 92 = .ok (.bipush 8, 2) := by decide +kernel
theorem dX12_count_94 : decode cX12_count 94 = .ok (.invokevirtual 105, 3) := by decide +kernel
theorem dX12_count_97 : decode cX12_count 97 = .ok (.ireturn, 1) := by decide +kernel
theorem dX12_count_98 : decode cX12_count 98 = .ok (.aload_n 0, 1) := by decide +kernel
theorem dX12_count_99 : decode cX12_count 99 = .ok (.getfield 7, 3) := by decide +kernel
theorem dX12_count_102 : decode cX12_count 102 = .ok (.iconst 4, 1) := by decide +kernel
theorem dX12_count_103 : decode cX12_count 103 = .ok (.iaload, 1) := by decide +kernel
theorem dX12_count_104 : decode cX12_count 104 = .ok (.ireturn, 1) := by decide +kernel
theorem dX12_count_105 : decode cX12_count 105 = .ok (.aload_n 0, 1) := by decide +kernel
theorem dX12_count_106 : decode cX12_count 106 = .ok (.getfield 7, 3) := by decide +kernel
theorem dX12_count_109 : decode cX12_count 109 = .ok (.iconst 5, 1) := by decide +kernel
theorem dX12_count_110 : decode cX12_count 110 = .ok (.iaload, 1) := by decide +kernel
theorem dX12_count_111 : decode cX12_count 111 = .ok (.ireturn, 1) := by decide +kernel
theorem dX12_count_112 : decode cX12_count 112 = .ok (.aload_n 0, 1) := by decide +kernel
theorem dX12_count_113 : decode cX12_count 113 = .ok (.getfield 7, 3) := by decide +kernel
theorem dX12_count_116 : decode cX12_count 116 = .ok (.bipush 6, 2) := by decide +kernel
theorem dX12_count_118 : decode cX12_count 118 = .ok (.iaload, 1) := by decide +kernel
theorem dX12_count_119 : decode cX12_count 119 = .ok (.ireturn, 1) := by decide +kernel
theorem dX12_count_120 : decode cX12_count 120 = .ok (.aload_n 0, 1) := by decide +kernel
theorem dX12_count_121 : decode cX12_count 121 = .ok (.invokevirtual 151, 3) := by decide +kernel
theorem dX12_count_124 : decode cX12_count 124 = .ok (.ireturn, 1) := by decide +kernel
theorem dX12_count_125 : decode cX12_count 125 = .ok (.aload_n 0, 1) := by decide +kernel
theorem dX12_count_126 : decode cX12_count 126 = .ok (.invokevirtual 154, 3) := by decide +kernel
theorem dX12_count_129 : decode cX12_count 129 = .ok (.ireturn, 1) := by decide +kernel
theorem dX12_count_130 : decode cX12_count 130 = .ok (.aload_n 0, 1) := by decide +kernel
theorem dX12_count_131 : decode cX12_count 131 = .ok (.getfield 7, 3) := by decide +kernel
theorem dX12_count_134 : decode cX12_count 134 = .ok (.bipush 7, 2) := by decide +kernel
theorem dX12_count_136 : decode cX12_count 136 = .ok (.iload_n 1, 1) := by decide +kernel
theorem dX12_count_137 : decode cX12_count 137 = .ok (.iadd, 1) := by decide +kernel
theorem dX12_count_138 : decode cX12_count 138 = .ok (.bipush 7, 2) := by decide +kernel
theorem dX12_count_140 : decode cX12_count 140 = .ok (.isub, 1) := by decide +kernel
theorem dX12_count_141 : decode cX12_count 141 = .ok (.iaload, 1) := by decide +kernel
theorem dX12_count_142 : decode cX12_count 142 = .ok (.ireturn, 1) := by decide +kernel
theorem dX12_count_143 : decode cX12_count 143 = .ok (.aload_n 0, 1) := by decide +kernel
theorem dX12_count_144 : decode cX12_count 144 = .ok (.getfield 157, 3) := by decide +kernel
theorem dX12_count_147 : decode cX12_count 147 = .ok (.ireturn, 1) := by decide +kernel
theorem dX12_count_148 : decode cX12_count 148 = .ok (.iload_n 1, 1) := by decide +kernel
theorem dX12_count_149 : decode cX12_count 149 = .ok (.bipush 12, 2) := by decide +kernel
theorem dX12_count_151 : decode cX12_count 151 = .ok (.if_icmp .ne 10, 3) := by decide +kernel
theorem dX12_count_154 : decode cX12_count 154 = .ok (.aload_n 0, 1) := by decide +kernel
theorem dX12_count_155 : decode cX12_count 155 = .ok (.getfield 49, 3) := by decide +kernel
theorem dX12_count_158 : decode cX12_count 158 = .ok (.goto 5, 3) := by decide +kernel
theorem dX12_count_161 : decode cX12_count 161 = .ok (.bipush (-2), 2) := by decide +kernel
theorem dX12_count_163 : decode cX12_count 163 = .ok (.ireturn, 1) := by decide +kernel
theorem dX12_opens_0 : decode cX12_opens 0 = .ok (.aload_n 0, 1) := by decide +kernel
theorem dX12_opens_1 : decode cX12_opens 1 = .ok (.iload_n 2, 1) := by decide +kernel
theorem dX12_opens_2 : decode cX12_opens 2 = .ok (.invokevirtual 80, 3) := by decide +kernel
theorem dX12_opens_5 : decode cX12_opens 5 = .ok (.ifCond .ne 5, 3) := by decide +kernel
theorem dX12_opens_8 : decode cX12_opens 8 = .ok (.iconst (-1), 1) := by decide +kernel
theorem dX12_opens_9 : decode cX12_opens 9 = .ok (.ireturn, 1) := by decide +kernel
theorem dX12_opens_10 : decode cX12_opens 10 = .ok (.iload_n 1, 1) := by decide +kernel
theorem dX12_opens_11 : decode cX12_opens 11 = .ok (.invokestatic 60, 3) := by decide +kernel
theorem dX12_opens_14 : decode cX12_opens 14 = .ok (.ifCond .ne 6, 3) := by decide +kernel
theorem dX12_opens_17 : decode cX12_opens 17 = .ok (.bipush (-2), 2) := by decide +kernel
theorem dX12_opens_19 : decode cX12_opens 19 = .ok (.ireturn, 1) := by decide +kernel
theorem dX12_opens_20 : decode cX12_opens 20 = .ok (.aload_n 0, 1) := by decide +kernel
theorem dX12_opens_21 : decode cX12_opens 21 = .ok (.iload_n 1, 1) := by decide +kernel
theorem dX12_opens_22 : decode cX12_opens 22 = .ok (.iload_n 2, 1) := by decide +kernel
theorem dX12_opens_23 : decode cX12_opens 23 = .ok (.invokevirtual 112, 3) := by decide +kernel
theorem dX12_opens_26 : decode cX12_opens 26 = .ok (.ifCond .eq 7, 3) := by decide +kernel
theorem dX12_opens_29 : decode cX12_opens 29 = .ok (.iconst 1, 1) := by decide +kernel
theorem dX12_opens_30 : decode cX12_opens 30 = .ok (.goto 4, 3) := by decide +kernel
theorem dX12_opens_33 : decode cX12_opens 33 = .ok (.iconst 0, 1) := by decide +kernel
theorem dX12_opens_34 : decode cX12_opens 34 = .ok (.ireturn, 1) := by decide +kernel
theorem dX12_areDoors_0 : decode cX12_areDoors 0 = .ok (.iload_n 1, 1) := by decide +kernel
theorem dX12_areDoors_1 : decode cX12_areDoors 1 = .ok (.ifCond .lt 18, 3) := by decide +kernel
theorem dX12_areDoors_4 : decode cX12_areDoors 4 = .ok (.iload_n 1, 1) := by decide +kernel
theorem dX12_areDoors_5 : decode cX12_areDoors 5 = .ok (.aload_n 0, 1) := by decide +kernel
theorem dX12_areDoors_6 : decode cX12_areDoors 6 = .ok (.getfield 7, 3) := by decide +kernel
theorem dX12_areDoors_9 : decode cX12_areDoors 9 = .ok (.iconst 4, 1) := by decide +kernel
theorem dX12_areDoors_10 : decode cX12_areDoors 10 = .ok (.iaload, 1) := by decide +kernel
theorem dX12_areDoors_11 : decode cX12_areDoors 11 = .ok (.ishr, 1) := by decide +kernel
theorem dX12_areDoors_12 : decode cX12_areDoors 12 = .ok (.ifCond .ne 7, 3) := by decide +kernel
theorem dX12_areDoors_15 : decode cX12_areDoors 15 = .ok (.iconst 1, 1) := by decide +kernel
theorem dX12_areDoors_16 : decode cX12_areDoors 16 = .ok (.goto 4, 3) := by decide +kernel
theorem dX12_areDoors_19 : decode cX12_areDoors 19 = .ok (.iconst 0, 1) := by decide +kernel
theorem dX12_areDoors_20 : decode cX12_areDoors 20 = .ok (.ireturn, 1) := by decide +kernel
theorem dX12_openedBy_0 : decode cX12_openedBy 0 = .ok (.iconst 0, 1) := by decide +kernel
theorem dX12_openedBy_1 : decode cX12_openedBy 1 = .ok (.istore_n 2, 1) := by decide +kernel
theorem dX12_openedBy_2 : decode cX12_openedBy 2 = .ok (.iconst 0, 1) := by decide +kernel
theorem dX12_openedBy_3 : decode cX12_openedBy 3 = .ok (.istore_n 3, 1) := by decide +kernel
theorem dX12_openedBy_4 : decode cX12_openedBy 4 = .ok (.iload_n 3, 1) := by decide +kernel
theorem dX12_openedBy_5 : decode cX12_openedBy 5 = .ok (.aload_n 0, 1) := by decide +kernel
theorem dX12_openedBy_6 : decode cX12_openedBy 6 = .ok (.getfield 7, 3) := by decide +kernel
theorem dX12_openedBy_9 : decode cX12_openedBy 9 = .ok (.iconst 4, 1) := by decide +kernel
theorem dX12_openedBy_10 : decode cX12_openedBy 10 = .ok (.iaload, 1) := by decide +kernel
theorem dX12_openedBy_11 : decode cX12_openedBy 11 = .ok (.if_icmp .ge 28, 3) := by decide +kernel
theorem dX12_openedBy_14 : decode cX12_openedBy 14 = .ok (.iload_n 2, 1) := by decide +kernel
theorem dX12_openedBy_15 : decode cX12_openedBy 15 = .ok (.aload_n 0, 1) := by decide +kernel
theorem dX12_openedBy_16 : decode cX12_openedBy 16 = .ok (.iload_n 1, 1) := by decide +kernel
theorem dX12_openedBy_17 : decode cX12_openedBy 17 = .ok (.iload_n 3, 1) := by decide +kernel
theorem dX12_openedBy_18 : decode cX12_openedBy 18 = .ok (.invokevirtual 112, 3) := by decide +kernel
theorem dX12_openedBy_21 : decode cX12_openedBy 21 = .ok (.ifCond .eq 9, 3) := by decide +kernel
theorem dX12_openedBy_24 : decode cX12_openedBy 24 = .ok (.iconst 1, 1) := by decide +kernel
theorem dX12_openedBy_25 : decode cX12_openedBy 25 = .ok (.iload_n 3, 1) := by decide +kernel
theorem dX12_openedBy_26 : decode cX12_openedBy 26 = .ok (.ishl, 1) := by decide +kernel
theorem dX12_openedBy_27 : decode cX12_openedBy 27 = .ok (.goto 4, 3) := by decide +kernel
theorem dX12_openedBy_30 : decode cX12_openedBy 30 = .ok (.iconst 0, 1) := by decide +kernel
theorem dX12_openedBy_31 : decode cX12_openedBy 31 = .ok (.ior, 1) := by decide +kernel
theorem dX12_openedBy_32 : decode cX12_openedBy 32 = .ok (.istore_n 2, 1) := by decide +kernel
theorem dX12_openedBy_33 : decode cX12_openedBy 33 = .ok (.iinc 3 1, 3) := by decide +kernel
theorem dX12_openedBy_36 : decode cX12_openedBy 36 = .ok (.goto (-32), 3) := by decide +kernel
theorem dX12_openedBy_39 : decode cX12_openedBy 39 = .ok (.iload_n 2, 1) := by decide +kernel
theorem dX12_openedBy_40 : decode cX12_openedBy 40 = .ok (.ireturn, 1) := by decide +kernel
theorem dX12_chanceKeys_0 : decode cX12_chanceKeys 0 = .ok (.aload_n 0, 1) := by decide +kernel
theorem dX12_chanceKeys_1 : decode cX12_chanceKeys 1 = .ok (.iload_n 1, 1) := by decide +kernel
theorem dX12_chanceKeys_2 : decode cX12_chanceKeys 2 = .ok (.invokevirtual 160, 3) := by decide +kernel
theorem dX12_chanceKeys_5 : decode cX12_chanceKeys 5 = .ok (.ifCond .ne 5, 3) := by decide +kernel
theorem dX12_chanceKeys_8 : decode cX12_chanceKeys 8 = .ok (.iconst (-1), 1) := by decide +kernel
theorem dX12_chanceKeys_9 : decode cX12_chanceKeys 9 = .ok (.ireturn, 1) := by decide +kernel
theorem dX12_chanceKeys_10 : decode cX12_chanceKeys 10 = .ok (.iconst 0, 1) := by decide +kernel
theorem dX12_chanceKeys_11 : decode cX12_chanceKeys 11 = .ok (.istore_n 2, 1) := by decide +kernel
theorem dX12_chanceKeys_12 : decode cX12_chanceKeys 12 = .ok (.iconst 0, 1) := by decide +kernel
theorem dX12_chanceKeys_13 : decode cX12_chanceKeys 13 = .ok (.istore_n 3, 1) := by decide +kernel
theorem dX12_chanceKeys_14 : decode cX12_chanceKeys 14 = .ok (.iload_n 3, 1) := by decide +kernel
theorem dX12_chanceKeys_15 : decode cX12_chanceKeys 15 = .ok (.sipush 10000, 3) := by decide +kernel
theorem dX12_chanceKeys_18 : decode cX12_chanceKeys 18 = .ok (.if_icmp .ge 36, 3) := by decide +kernel
theorem dX12_chanceKeys_21 : decode cX12_chanceKeys 21 = .ok (.iload_n 2, 1) := by decide +kernel
theorem dX12_chanceKeys_22 : decode cX12_chanceKeys 22 = .ok (.aload_n 0, 1) := by decide +kernel
theorem dX12_chanceKeys_23 : decode cX12_chanceKeys 23 = .ok (.iload_n 3, 1) := by decide +kernel
theorem dX12_chanceKeys_24 : decode cX12_chanceKeys 24 = .ok (.invokevirtual 96, 3) := by decide +kernel
theorem dX12_chanceKeys_27 : decode cX12_chanceKeys 27 = .ok (.ifCond .eq 18, 3) := by decide +kernel
theorem dX12_chanceKeys_30 : decode cX12_chanceKeys 30 = .ok (.aload_n 0, 1) := by decide +kernel
theorem dX12_chanceKeys_31 : decode cX12_chanceKeys 31 = .ok (.iload_n 3, 1) := by decide +kernel
theorem dX12_chanceKeys_32 : decode cX12_chanceKeys 32 = .ok (.invokevirtual 163, 3) := by decide +kernel
theorem dX12_chanceKeys_35 : decode cX12_chanceKeys 35 = .ok (.iload_n 1, 1) := by decide +kernel
theorem dX12_chanceKeys_36 : decode cX12_chanceKeys 36 = .ok (.iand, 1) := by decide +kernel
theorem dX12_chanceKeys_37 : decode cX12_chanceKeys 37 = .ok (.iload_n 1, 1) := by decide +kernel
theorem dX12_chanceKeys_38 : decode cX12_chanceKeys 38 = .ok (.if_icmp .ne 7, 3) := by decide +kernel
theorem dX12_chanceKeys_41 : decode cX12_chanceKeys 41 = .ok (.iconst 1, 1) := by decide +kernel
theorem dX12_chanceKeys_42 : decode cX12_chanceKeys 42 = .ok (.goto 4, 3) := by decide +kernel
theorem dX12_chanceKeys_45 : decode cX12_chanceKeys 45 = .ok (.iconst 0, 1) := by decide +kernel
theorem dX12_chanceKeys_46 : decode cX12_chanceKeys 46 = .ok (.iadd, 1) := by decide +kernel
theorem dX12_chanceKeys_47 : decode cX12_chanceKeys 47 = .ok (.istore_n 2, 1) := by decide +kernel
theorem dX12_chanceKeys_48 : decode cX12_chanceKeys 48 = .ok (.iinc 3 1, 3) := by decide +kernel
theorem dX12_chanceKeys_51 : decode cX12_chanceKeys 51 = .ok (.goto (-37), 3) := by decide +kernel
theorem dX12_chanceKeys_54 : decode cX12_chanceKeys 54 = .ok (.iload_n 2, 1) := by decide +kernel
theorem dX12_chanceKeys_55 : decode cX12_chanceKeys 55 = .ok (.ireturn, 1) := by decide +kernel
theorem dX12_justFor_0 : decode cX12_justFor 0 = .ok (.aload_n 0, 1) := by decide +kernel
theorem dX12_justFor_1 : decode cX12_justFor 1 = .ok (.iload_n 1, 1) := by decide +kernel
theorem dX12_justFor_2 : decode cX12_justFor 2 = .ok (.invokevirtual 160, 3) := by decide +kernel
theorem dX12_justFor_5 : decode cX12_justFor 5 = .ok (.ifCond .ne 5, 3) := by decide +kernel
theorem dX12_justFor_8 : decode cX12_justFor 8 = .ok (.iconst (-1), 1) := by decide +kernel
theorem dX12_justFor_9 : decode cX12_justFor 9 = .ok (.ireturn, 1) := by decide +kernel
theorem dX12_justFor_10 : decode cX12_justFor 10 = .ok (.iconst 0, 1) := by decide +kernel
theorem dX12_justFor_11 : decode cX12_justFor 11 = .ok (.istore_n 2, 1) := by decide +kernel
theorem dX12_justFor_12 : decode cX12_justFor 12 = .ok (.iload_n 2, 1) := by decide +kernel
theorem dX12_justFor_13 : decode cX12_justFor 13 = .ok (.sipush 10000, 3) := by decide +kernel
theorem dX12_justFor_16 : decode cX12_justFor 16 = .ok (.if_icmp .ge 28, 3) := by decide +kernel
theorem dX12_justFor_19 : decode cX12_justFor 19 = .ok (.aload_n 0, 1) := by decide +kernel
theorem dX12_justFor_20 : decode cX12_justFor 20 = .ok (.iload_n 2, 1) := by decide +kernel
theorem dX12_justFor_21 : decode cX12_justFor 21 = .ok (.invokevirtual 96, 3) := by decide +kernel
theorem dX12_justFor_24 : decode cX12_justFor 24 = .ok (.ifCond .eq 14, 3) := by decide +kernel
theorem dX12_justFor_27 : decode cX12_justFor 27 = .ok (.aload_n 0, 1) := by decide +kernel
theorem dX12_justFor_28 : decode cX12_justFor 28 = .ok (.iload_n 2, 1) := by decide +kernel
theorem dX12_justFor_29 : decode cX12_justFor 29 = .ok (.invokevirtual 163, 3) := by decide +kernel
theorem dX12_justFor_32 : decode cX12_justFor 32 = .ok (.iload_n 1, 1) := by decide +kernel
theorem dX12_justFor_33 : decode cX12_justFor 33 = .ok (.if_icmp .ne 5, 3) := by decide +kernel
theorem dX12_justFor_36 : decode cX12_justFor 36 = .ok (.iload_n 2, 1) := by decide +kernel
theorem dX12_justFor_37 : decode cX12_justFor 37 = .ok (.ireturn, 1) := by decide +kernel
theorem dX12_justFor_38 : decode cX12_justFor 38 = .ok (.iinc 2 1, 3) := by decide +kernel
theorem dX12_justFor_41 : decode cX12_justFor 41 = .ok (.goto (-29), 3) := by decide +kernel
theorem dX12_justFor_44 : decode cX12_justFor 44 = .ok (.bipush (-6), 2) := by decide +kernel
theorem dX12_justFor_46 : decode cX12_justFor 46 = .ok (.ireturn, 1) := by decide +kernel
theorem dX12_keysOf_0 : decode cX12_keysOf 0 = .ok (.aload_n 0, 1) := by decide +kernel
theorem dX12_keysOf_1 : decode cX12_keysOf 1 = .ok (.bipush 8, 2) := by decide +kernel
theorem dX12_keysOf_3 : decode cX12_keysOf 3 = .ok (.invokevirtual 105, 3) := by decide +kernel
theorem dX12_keysOf_6 : decode cX12_keysOf 6 = .ok (.istore_n 2, 1) := by decide +kernel
theorem dX12_keysOf_7 : decode cX12_keysOf 7 = .ok (.iconst 0, 1) := by decide +kernel
theorem dX12_keysOf_8 : decode cX12_keysOf 8 = .ok (.istore_n 3, 1) := by decide +kernel
theorem dX12_keysOf_9 : decode cX12_keysOf 9 = .ok (.iload_n 3, 1) := by decide +kernel
theorem dX12_keysOf_10 : decode cX12_keysOf 10 = .ok (.bipush 8, 2) := by decide +kernel
theorem dX12_keysOf_12 : decode cX12_keysOf 12 = .ok (.if_icmp .ge 30, 3) := by decide +kernel
theorem dX12_keysOf_15 : decode cX12_keysOf 15 = .ok (.iload_n 2, 1) := by decide +kernel
theorem dX12_keysOf_16 : decode cX12_keysOf 16 = .ok (.iload_n 1, 1) := by decide +kernel
theorem dX12_keysOf_17 : decode cX12_keysOf 17 = .ok (.iload_n 3, 1) := by decide +kernel
theorem dX12_keysOf_18 : decode cX12_keysOf 18 = .ok (.ishr, 1) := by decide +kernel
theorem dX12_keysOf_19 : decode cX12_keysOf 19 = .ok (.iconst 1, 1) := by decide +kernel
theorem dX12_keysOf_20 : decode cX12_keysOf 20 = .ok (.iand, 1) := by decide +kernel
theorem dX12_keysOf_21 : decode cX12_keysOf 21 = .ok (.iconst 1, 1) := by decide +kernel
theorem dX12_keysOf_22 : decode cX12_keysOf 22 = .ok (.if_icmp .ne 11, 3) := by decide +kernel
theorem dX12_keysOf_25 : decode cX12_keysOf 25 = .ok (.aload_n 0, 1) := by decide +kernel
theorem dX12_keysOf_26 : decode cX12_keysOf 26 = .ok (.iload_n 3, 1) := by decide +kernel
theorem dX12_keysOf_27 : decode cX12_keysOf 27 = .ok (.invokevirtual 105, 3) := by decide +kernel
theorem dX12_keysOf_30 : decode cX12_keysOf 30 = .ok (.goto 4, 3) := by decide +kernel
theorem dX12_keysOf_33 : decode cX12_keysOf 33 = .ok (.iconst 0, 1) := by decide +kernel
theorem dX12_keysOf_34 : decode cX12_keysOf 34 = .ok (.ior, 1) := by decide +kernel
theorem dX12_keysOf_35 : decode cX12_keysOf 35 = .ok (.istore_n 2, 1) := by decide +kernel
theorem dX12_keysOf_36 : decode cX12_keysOf 36 = .ok (.iinc 3 1, 3) := by decide +kernel
theorem dX12_keysOf_39 : decode cX12_keysOf 39 = .ok (.goto (-30), 3) := by decide +kernel
theorem dX12_keysOf_42 : decode cX12_keysOf 42 = .ok (.iload_n 2, 1) := by decide +kernel
theorem dX12_keysOf_43 : decode cX12_keysOf 43 = .ok (.ireturn, 1) := by decide +kernel
theorem dX12_reach_0 : decode cX12_reach 0 = .ok (.iconst 1, 1) := by decide +kernel
theorem dX12_reach_1 : decode cX12_reach 1 = .ok (.aload_n 0, 1) := by decide +kernel
theorem dX12_reach_2 : decode cX12_reach 2 = .ok (.getfield 7, 3) := by decide +kernel
theorem dX12_reach_5 : decode cX12_reach 5 = .ok (.iconst 3, 1) := by decide +kernel
theorem dX12_reach_6 : decode cX12_reach 6 = .ok (.iaload, 1) := by decide +kernel
theorem dX12_reach_7 : decode cX12_reach 7 = .ok (.ishl, 1) := by decide +kernel
theorem dX12_reach_8 : decode cX12_reach 8 = .ok (.istore_n 1, 1) := by decide +kernel
theorem dX12_reach_9 : decode cX12_reach 9 = .ok (.iconst 0, 1) := by decide +kernel
theorem dX12_reach_10 : decode cX12_reach 10 = .ok (.istore_n 2, 1) := by decide +kernel
theorem dX12_reach_11 : decode cX12_reach 11 = .ok (.iload_n 2, 1) := by decide +kernel
theorem dX12_reach_12 : decode cX12_reach 12 = .ok (.iload_n 1, 1) := by decide +kernel
theorem dX12_reach_13 : decode cX12_reach 13 = .ok (.if_icmp .eq 74, 3) := by decide +kernel
theorem dX12_reach_16 : decode cX12_reach 16 = .ok (.iload_n 1, 1) := by decide +kernel
theorem dX12_reach_17 : decode cX12_reach 17 = .ok (.istore_n 2, 1) := by decide +kernel
theorem dX12_reach_18 : decode cX12_reach 18 = .ok (.iconst 0, 1) := by decide +kernel
theorem dX12_reach_19 : decode cX12_reach 19 = .ok (.istore_n 3, 1) := by decide +kernel
theorem dX12_reach_20 : decode cX12_reach 20 = .ok (.iload_n 3, 1) := by decide +kernel
theorem dX12_reach_21 : decode cX12_reach 21 = .ok (.aload_n 0, 1) := by decide +kernel
theorem dX12_reach_22 : decode cX12_reach 22 = .ok (.getfield 7, 3) := by decide +kernel
theorem dX12_reach_25 : decode cX12_reach 25 = .ok (.iconst 4, 1) := by decide +kernel
theorem dX12_reach_26 : decode cX12_reach 26 = .ok (.iaload, 1) := by decide +kernel
theorem dX12_reach_27 : decode cX12_reach 27 = .ok (.if_icmp .ge 57, 3) := by decide +kernel
theorem dX12_reach_30 : decode cX12_reach 30 = .ok (.iconst 1, 1) := by decide +kernel
theorem dX12_reach_31 : decode cX12_reach 31 = .ok (.aload_n 0, 1) := by decide +kernel
theorem dX12_reach_32 : decode cX12_reach 32 = .ok (.iload_n 3, 1) := by decide +kernel
theorem dX12_reach_33 : decode cX12_reach 33 = .ok (.iconst 0, 1) := by decide +kernel
theorem dX12_reach_34 : decode cX12_reach 34 = .ok (.invokevirtual 67, 3) := by decide +kernel
theorem dX12_reach_37 : decode cX12_reach 37 = .ok (.ishl, 1) := by decide +kernel
theorem dX12_reach_38 : decode cX12_reach 38 = .ok (.iconst 1, 1) := by decide +kernel
theorem dX12_reach_39 : decode cX12_reach 39 = .ok (.aload_n 0, 1) := by decide +kernel
theorem dX12_reach_40 : decode cX12_reach 40 = .ok (.iload_n 3, 1) := by decide +kernel
theorem dX12_reach_41 : decode cX12_reach 41 = .ok (.iconst 1, 1) := by decide +kernel
theorem dX12_reach_42 : decode cX12_reach 42 = .ok (.invokevirtual 67, 3) := by decide +kernel
theorem dX12_reach_45 : decode cX12_reach 45 = .ok (.ishl, 1) := by decide +kernel
theorem dX12_reach_46 : decode cX12_reach 46 = .ok (.ior, 1) := by decide +kernel
theorem dX12_reach_47 : decode cX12_reach 47 = .ok (.istore 4, 2) := by decide +kernel
theorem dX12_reach_49 : decode cX12_reach 49 = .ok (.iload_n 1, 1) := by decide +kernel
theorem dX12_reach_50 : decode cX12_reach 50 = .ok (.iload_n 1, 1) := by decide +kernel
theorem dX12_reach_51 : decode cX12_reach 51 = .ok (.iload 4, 2) := by decide +kernel
theorem dX12_reach_53 : decode cX12_reach 53 = .ok (.iand, 1) := by decide +kernel
theorem dX12_reach_54 : decode cX12_reach 54 = .ok (.ifCond .eq 21, 3) := by decide +kernel
theorem dX12_reach_57 : decode cX12_reach 57 = .ok (.aload_n 0, 1) := by decide +kernel
theorem dX12_reach_58 : decode cX12_reach 58 = .ok (.iload_n 3, 1) := by decide +kernel
theorem dX12_reach_59 : decode cX12_reach 59 = .ok (.aload_n 0, 1) := by decide +kernel
theorem dX12_reach_60 : decode cX12_reach 60 = .ok (.iload_n 1, 1) := by decide +kernel
theorem dX12_reach_61 : decode cX12_reach 61 = .ok (.invokevirtual 166, 3) := by decide +kernel
theorem dX12_reach_64 : decode cX12_reach 64 = .ok (.invokevirtual 119, 3) := by decide +kernel
theorem dX12_reach_67 : decode cX12_reach 67 = .ok (.ifCond .eq 8, 3) := by decide +kernel
theorem dX12_reach_70 : decode cX12_reach 70 = .ok (.iload 4, 2) := by decide +kernel
theorem dX12_reach_72 : decode cX12_reach 72 = .ok (.goto 4, 3) := by decide +kernel
theorem dX12_reach_75 : decode cX12_reach 75 = .ok (.iconst 0, 1) := by decide +kernel
theorem dX12_reach_76 : decode cX12_reach 76 = .ok (.ior, 1) := by decide +kernel
theorem dX12_reach_77 : decode cX12_reach 77 = .ok (.istore_n 1, 1) := by decide +kernel
theorem dX12_reach_78 : decode cX12_reach 78 = .ok (.iinc 3 1, 3) := by decide +kernel
theorem dX12_reach_81 : decode cX12_reach 81 = .ok (.goto (-61), 3) := by decide +kernel
theorem dX12_reach_84 : decode cX12_reach 84 = .ok (.goto (-73), 3) := by decide +kernel
theorem dX12_reach_87 : decode cX12_reach 87 = .ok (.iload_n 1, 1) := by decide +kernel
theorem dX12_reach_88 : decode cX12_reach 88 = .ok (.ireturn, 1) := by decide +kernel
theorem dX12_doorsTo_0 : decode cX12_doorsTo 0 = .ok (.iload_n 1, 1) := by decide +kernel
theorem dX12_doorsTo_1 : decode cX12_doorsTo 1 = .ok (.iconst 0, 1) := by decide +kernel
theorem dX12_doorsTo_2 : decode cX12_doorsTo 2 = .ok (.bipush 7, 2) := by decide +kernel
theorem dX12_doorsTo_4 : decode cX12_doorsTo 4 = .ok (.invokestatic 41, 3) := by decide +kernel
theorem dX12_doorsTo_7 : decode cX12_doorsTo 7 = .ok (.ifCond .ne 6, 3) := by decide +kernel
theorem dX12_doorsTo_10 : decode cX12_doorsTo 10 = .ok (.bipush (-2), 2) := by decide +kernel
theorem dX12_doorsTo_12 : decode cX12_doorsTo 12 = .ok (.ireturn, 1) := by decide +kernel
theorem dX12_doorsTo_13 : decode cX12_doorsTo 13 = .ok (.iconst 0, 1) := by decide +kernel
theorem dX12_doorsTo_14 : decode cX12_doorsTo 14 = .ok (.istore_n 2, 1) := by decide +kernel
theorem dX12_doorsTo_15 : decode cX12_doorsTo 15 = .ok (.iload_n 2, 1) := by decide +kernel
theorem dX12_doorsTo_16 : decode cX12_doorsTo 16 = .ok (.sipush 2048, 3) := by decide +kernel
theorem dX12_doorsTo_19 : decode cX12_doorsTo 19 = .ok (.if_icmp .ge 17, 3) := by decide +kernel
theorem dX12_doorsTo_22 : decode cX12_doorsTo 22 = .ok (.aload_n 0, 1) := by decide +kernel
theorem dX12_doorsTo_23 : decode cX12_doorsTo 23 = .ok (.getfield 32, 3) := by decide +kernel
theorem dX12_doorsTo_26 : decode cX12_doorsTo 26 = .ok (.iload_n 2, 1) := by decide +kernel
theorem dX12_doorsTo_27 : decode cX12_doorsTo 27 = .ok (.bipush (-6), 2) := by decide +kernel
theorem dX12_doorsTo_29 : decode cX12_doorsTo 29 = .ok (.iastore, 1) := by decide +kernel
theorem dX12_doorsTo_30 : decode cX12_doorsTo 30 = .ok (.iinc 2 1, 3) := by decide +kernel
theorem dX12_doorsTo_33 : decode cX12_doorsTo 33 = .ok (.goto (-18), 3) := by decide +kernel
theorem dX12_doorsTo_36 : decode cX12_doorsTo 36 = .ok (.bipush 8, 2) := by decide +kernel
theorem dX12_doorsTo_38 : decode cX12_doorsTo 38 = .ok (.iconst 1, 1) := by decide +kernel
theorem dX12_doorsTo_39 : decode cX12_doorsTo 39 = .ok (.aload_n 0, 1) := by decide +kernel
theorem dX12_doorsTo_40 : decode cX12_doorsTo 40 = .ok (.getfield 7, 3) := by decide +kernel
theorem dX12_doorsTo_43 : decode cX12_doorsTo 43 = .ok (.iconst 3, 1) := by decide +kernel
theorem dX12_doorsTo_44 : decode cX12_doorsTo 44 = .ok (.iaload, 1) := by decide +kernel
theorem dX12_doorsTo_45 : decode cX12_doorsTo 45 = .ok (.ishl, 1) := by decide +kernel
theorem dX12_doorsTo_46 : decode cX12_doorsTo 46 = .ok (.imul, 1) := by decide +kernel
theorem dX12_doorsTo_47 : decode cX12_doorsTo 47 = .ok (.aload_n 0, 1) := by decide +kernel
theorem dX12_doorsTo_48 : decode cX12_doorsTo 48 = .ok (.getfield 7, 3) := by decide +kernel
theorem dX12_doorsTo_51 : decode cX12_doorsTo 51 = .ok (.iconst 3, 1) := by decide +kernel
theorem dX12_doorsTo_52 : decode cX12_doorsTo 52 = .ok (.iaload, 1) := by decide +kernel
theorem dX12_doorsTo_53 : decode cX12_doorsTo 53 = .ok (.iadd, 1) := by decide +kernel
theorem dX12_doorsTo_54 : decode cX12_doorsTo 54 = .ok (.istore_n 2, 1) := by decide +kernel
theorem dX12_doorsTo_55 : decode cX12_doorsTo 55 = .ok (.iconst 0, 1) := by decide +kernel
theorem dX12_doorsTo_56 : decode cX12_doorsTo 56 = .ok (.istore_n 3, 1) := by decide +kernel
theorem dX12_doorsTo_57 : decode cX12_doorsTo 57 = .ok (.iconst 1, 1) := by decide +kernel
theorem dX12_doorsTo_58 : decode cX12_doorsTo 58 = .ok (.istore 4, 2) := by decide +kernel
theorem dX12_doorsTo_60 : decode cX12_doorsTo 60 = .ok (.aload_n 0, 1) := by decide +kernel
theorem dX12_doorsTo_61 : decode cX12_doorsTo 61 = .ok (.getfield 35, 3) := by decide +kernel
theorem dX12_doorsTo_64 : decode cX12_doorsTo 64 = .ok (.iconst 0, 1) := by decide +kernel
theorem dX12_doorsTo_65 : decode cX12_doorsTo 65 = .ok (.iload_n 2, 1) := by decide +kernel
theorem dX12_doorsTo_66 : decode cX12_doorsTo 66 = .ok (.iastore, 1) := by decide +kernel
theorem dX12_doorsTo_67 : decode cX12_doorsTo 67 = .ok (.aload_n 0, 1) := by decide +kernel
theorem dX12_doorsTo_68 : decode cX12_doorsTo 68 = .ok (.getfield 32, 3) := by decide +kernel
theorem dX12_doorsTo_71 : decode cX12_doorsTo 71 = .ok (.iload_n 2, 1) := by decide +kernel
theorem dX12_doorsTo_72 : decode cX12_doorsTo 72 = .ok (.iconst 0, 1) := by decide +kernel
theorem dX12_doorsTo_73 : decode cX12_doorsTo 73 = .ok (.iastore, 1) := by decide +kernel
theorem dX12_doorsTo_74 : decode cX12_doorsTo 74 = .ok (.iload_n 3, 1) := by decide +kernel
theorem dX12_doorsTo_75 : decode cX12_doorsTo 75 = .ok (.iload 4, 2) := by decide +kernel
theorem dX12_doorsTo_77 : decode cX12_doorsTo 77 = .ok (.if_icmp .ge 150, 3) := by decide +kernel
theorem dX12_doorsTo_80 : decode cX12_doorsTo 80 = .ok (.aload_n 0, 1) := by decide +kernel
theorem dX12_doorsTo_81 : decode cX12_doorsTo 81 = .ok (.getfield 35, 3) := by decide +kernel
theorem dX12_doorsTo_84 : decode cX12_doorsTo 84 = .ok (.iload_n 3, 1) := by decide +kernel
theorem dX12_doorsTo_85 : decode cX12_doorsTo 85 = .ok (.iaload, 1) := by decide +kernel
theorem dX12_doorsTo_86 : decode cX12_doorsTo 86 = .ok (.istore 5, 2) := by decide +kernel
theorem dX12_doorsTo_88 : decode cX12_doorsTo 88 = .ok (.iinc 3 1, 3) := by decide +kernel
theorem dX12_doorsTo_91 : decode cX12_doorsTo 91 = .ok (.iload 5, 2) := by decide +kernel
theorem dX12_doorsTo_93 : decode cX12_doorsTo 93 = .ok (.bipush 8, 2) := by decide +kernel
theorem dX12_doorsTo_95 : decode cX12_doorsTo 95 = .ok (.irem, 1) := by decide +kernel
theorem dX12_doorsTo_96 : decode cX12_doorsTo 96 = .ok (.iload_n 1, 1) := by decide +kernel
theorem dX12_doorsTo_97 : decode cX12_doorsTo 97 = .ok (.if_icmp .ne 11, 3) := by decide +kernel
theorem dX12_doorsTo_100 : decode cX12_doorsTo 100 = .ok (.aload_n 0, 1) := by decide +kernel
theorem dX12_doorsTo_101 : decode cX12_doorsTo 101 = .ok (.getfield 32, 3) := by decide +kernel
theorem dX12_doorsTo_104 : decode cX12_doorsTo 104 = .ok (.iload 5, 2) := by decide +kernel
theorem dX12_doorsTo_106 : decode cX12_doorsTo 106 = .ok (.iaload, 1) := by decide +kernel
theorem dX12_doorsTo_107 : decode cX12_doorsTo 107 = .ok (.ireturn, 1) := by decide +kernel
theorem dX12_doorsTo_108 : decode cX12_doorsTo 108 = .ok (.aload_n 0, 1) := by decide +kernel
theorem dX12_doorsTo_109 : decode cX12_doorsTo 109 = .ok (.iload 5, 2) := by decide +kernel
theorem dX12_doorsTo_111 : decode cX12_doorsTo 111 = .ok (.bipush 8, 2) := by decide +kernel
theorem dX12_doorsTo_113 : decode cX12_doorsTo 113 = .ok (.idiv, 1) := by decide +kernel
theorem dX12_doorsTo_114 : decode cX12_doorsTo 114 = .ok (.invokevirtual 166, 3) := by decide +kernel
theorem dX12_doorsTo_117 : decode cX12_doorsTo 117 = .ok (.istore 6, 2) := by decide +kernel
theorem dX12_doorsTo_119 : decode cX12_doorsTo 119 = .ok (.iconst 0, 1) := by decide +kernel
theorem dX12_doorsTo_120 : decode cX12_doorsTo 120 = .ok (.istore 7, 2) := by decide +kernel
theorem dX12_doorsTo_122 : decode cX12_doorsTo 122 = .ok (.iload 7, 2) := by decide +kernel
theorem dX12_doorsTo_124 : decode cX12_doorsTo 124 = .ok (.aload_n 0, 1) := by decide +kernel
theorem dX12_doorsTo_125 : decode cX12_doorsTo 125 = .ok (.getfield 7, 3) := by decide +kernel
theorem dX12_doorsTo_128 : decode cX12_doorsTo 128 = .ok (.iconst 4, 1) := by decide +kernel
theorem dX12_doorsTo_129 : decode cX12_doorsTo 129 = .ok (.iaload, 1) := by decide +kernel
theorem dX12_doorsTo_130 : decode cX12_doorsTo 130 = .ok (.if_icmp .ge 94, 3) := by decide +kernel
theorem dX12_doorsTo_133 : decode cX12_doorsTo 133 = .ok (.aload_n 0, 1) := by decide +kernel
theorem dX12_doorsTo_134 : decode cX12_doorsTo 134 = .ok (.iload 7, 2) := by decide +kernel
theorem dX12_doorsTo_136 : decode cX12_doorsTo 136 = .ok (.iload 5, 2) := by decide +kernel
theorem dX12_doorsTo_138 : decode cX12_doorsTo 138 = .ok (.bipush 8, 2) := by decide +kernel
theorem dX12_doorsTo_140 : decode cX12_doorsTo 140 = .ok (.irem, 1) := by decide +kernel
theorem dX12_doorsTo_141 : decode cX12_doorsTo 141 = .ok (.invokevirtual 116, 3) := by decide +kernel
theorem dX12_doorsTo_144 : decode cX12_doorsTo 144 = .ok (.istore 8, 2) := by decide +kernel
theorem dX12_doorsTo_146 : decode cX12_doorsTo 146 = .ok (.iload 8, 2) := by decide +kernel
theorem dX12_doorsTo_148 : decode cX12_doorsTo 148 = .ok (.ifCond .lt 70, 3) := by decide +kernel
theorem dX12_doorsTo_151 : decode cX12_doorsTo 151 = .ok (.aload_n 0, 1) := by decide +kernel
theorem dX12_doorsTo_152 : decode cX12_doorsTo 152 = .ok (.iload 7, 2) := by decide +kernel
theorem dX12_doorsTo_154 : decode cX12_doorsTo 154 = .ok (.iload 6, 2) := by decide +kernel
theorem dX12_doorsTo_156 : decode cX12_doorsTo 156 = .ok (.invokevirtual 119, 3) := by decide +kernel
theorem dX12_doorsTo_159 : decode cX12_doorsTo 159 = .ok (.ifCond .eq 59, 3) := by decide +kernel
theorem dX12_doorsTo_162 : decode cX12_doorsTo 162 = .ok (.bipush 8, 2) := by decide +kernel
theorem dX12_doorsTo_164 : decode cX12_doorsTo 164 = .ok (.iload 5, 2) := by decide +kernel
theorem dX12_doorsTo_166 : decode cX12_doorsTo 166 = .ok (.bipush 8, 2) := by decide +kernel
theorem dX12_doorsTo_168 : decode cX12_doorsTo 168 = .ok (.idiv, 1) := by decide +kernel
theorem dX12_doorsTo_169 : decode cX12_doorsTo 169 = .ok (.iconst 1, 1) := by decide +kernel
theorem dX12_doorsTo_170 : decode cX12_doorsTo 170 = .ok (.iload 8, 2) := by decide +kernel
theorem dX12_doorsTo_172 : decode cX12_doorsTo 172 = .ok (.ishl, 1) := by decide +kernel
theorem dX12_doorsTo_173 : decode cX12_doorsTo 173 = .ok (.ior, 1) := by decide +kernel
theorem dX12_doorsTo_174 : decode cX12_doorsTo 174 = .ok (.imul, 1) := by decide +kernel
theorem dX12_doorsTo_175 : decode cX12_doorsTo 175 = .ok (.iload 8, 2) := by decide +kernel
theorem dX12_doorsTo_177 : decode cX12_doorsTo 177 = .ok (.iadd, 1) := by decide +kernel
theorem dX12_doorsTo_178 : decode cX12_doorsTo 178 = .ok (.istore 9, 2) := by decide +kernel
theorem dX12_doorsTo_180 : decode cX12_doorsTo 180 = .ok (.aload_n 0, 1) := by decide +kernel
theorem dX12_doorsTo_181 : decode cX12_doorsTo 181 = .ok (.getfield 32, 3) := by decide +kernel
theorem dX12_doorsTo_184 : decode cX12_doorsTo 184 = .ok (.iload 9, 2) := by decide +kernel
theorem dX12_doorsTo_186 : decode cX12_doorsTo 186 = .ok (.iaload, 1) := by decide +kernel
theorem dX12_doorsTo_187 : decode cX12_doorsTo 187 = .ok (.ifCond .ge 31, 3) := by decide +kernel
theorem dX12_doorsTo_190 : decode cX12_doorsTo 190 = .ok (.aload_n 0, 1) := by decide +kernel
theorem dX12_doorsTo_191 : decode cX12_doorsTo 191 = .ok (.getfield 32, 3) := by decide +kernel
theorem dX12_doorsTo_194 : decode cX12_doorsTo 194 = .ok (.iload 9, 2) := by decide +kernel
theorem dX12_doorsTo_196 : decode cX12_doorsTo 196 = .ok (.aload_n 0, 1) := by decide +kernel
theorem dX12_doorsTo_197 : decode cX12_doorsTo 197 = .ok (.getfield 32, 3) := by decide +kernel
theorem dX12_doorsTo_200 : decode cX12_doorsTo 200 = .ok (.iload 5, 2) := by decide +kernel
theorem dX12_doorsTo_202 : decode cX12_doorsTo 202 = .ok (.iaload, 1) := by decide +kernel
theorem dX12_doorsTo_203 : decode cX12_doorsTo 203 = .ok (.iconst 1, 1) := by decide +kernel
theorem dX12_doorsTo_204 : decode cX12_doorsTo 204 = .ok (.iadd, 1) := by decide +kernel
theorem dX12_doorsTo_205 : decode cX12_doorsTo 205 = .ok (.iastore, 1) := by decide +kernel
theorem dX12_doorsTo_206 : decode cX12_doorsTo 206 = .ok (.aload_n 0, 1) := by decide +kernel
theorem dX12_doorsTo_207 : decode cX12_doorsTo 207 = .ok (.getfield 35, 3) := by decide +kernel
theorem dX12_doorsTo_210 : decode cX12_doorsTo 210 = .ok (.iload 4, 2) := by decide +kernel
theorem dX12_doorsTo_212 : decode cX12_doorsTo 212 = .ok (.iload 9, 2) := by decide +kernel
theorem dX12_doorsTo_214 : decode cX12_doorsTo 214 = .ok (.iastore, 1) := by decide +kernel
theorem dX12_doorsTo_215 : decode cX12_doorsTo 215 = .ok (.iinc 4 1, 3) := by decide +kernel
theorem dX12_doorsTo_218 : decode cX12_doorsTo 218 = .ok (.iinc 7 1, 3) := by decide +kernel
theorem dX12_doorsTo_221 : decode cX12_doorsTo 221 = .ok (.goto (-99), 3) := by decide +kernel
theorem dX12_doorsTo_224 : decode cX12_doorsTo 224 = .ok (.goto (-150), 3) := by decide +kernel
theorem dX12_doorsTo_227 : decode cX12_doorsTo 227 = .ok (.bipush (-6), 2) := by decide +kernel
theorem dX12_doorsTo_229 : decode cX12_doorsTo 229 = .ok (.ireturn, 1) := by decide +kernel
theorem dX12_planOrder_0 : decode cX12_planOrder 0 = .ok (.iload_n 1, 1) := by decide +kernel
theorem dX12_planOrder_1 : decode cX12_planOrder 1 = .ok (.iconst 0, 1) := by decide +kernel
theorem dX12_planOrder_2 : decode cX12_planOrder 2 = .ok (.iconst 5, 1) := by decide +kernel
theorem dX12_planOrder_3 : decode cX12_planOrder 3 = .ok (.invokestatic 41, 3) := by decide +kernel
theorem dX12_planOrder_6 : decode cX12_planOrder 6 = .ok (.ifCond .ne 6, 3) := by decide +kernel
theorem dX12_planOrder_9 : decode cX12_planOrder 9 = .ok (.bipush (-2), 2) := by decide +kernel
theorem dX12_planOrder_11 : decode cX12_planOrder 11 = .ok (.ireturn, 1) := by decide +kernel
theorem dX12_planOrder_12 : decode cX12_planOrder 12 = .ok (.aload_n 0, 1) := by decide +kernel
theorem dX12_planOrder_13 : decode cX12_planOrder 13 = .ok (.invokevirtual 142, 3) := by decide +kernel
theorem dX12_planOrder_16 : decode cX12_planOrder 16 = .ok (.aload_n 0, 1) := by decide +kernel
theorem dX12_planOrder_17 : decode cX12_planOrder 17 = .ok (.getfield 125, 3) := by decide +kernel
theorem dX12_planOrder_20 : decode cX12_planOrder 20 = .ok (.ifCond .le 23, 3) := by decide +kernel
theorem dX12_planOrder_23 : decode cX12_planOrder 23 = .ok (.iload_n 1, 1) := by decide +kernel
theorem dX12_planOrder_24 : decode cX12_planOrder 24 = .ok (.aload_n 0, 1) := by decide +kernel
theorem dX12_planOrder_25 : decode cX12_planOrder 25 = .ok (.getfield 7, 3) := by decide +kernel
theorem dX12_planOrder_28 : decode cX12_planOrder 28 = .ok (.bipush 9, 2) := by decide +kernel
theorem dX12_planOrder_30 : decode cX12_planOrder 30 = .ok (.iaload, 1) := by decide +kernel
theorem dX12_planOrder_31 : decode cX12_planOrder 31 = .ok (.if_icmp .ge 12, 3) := by decide +kernel
theorem dX12_planOrder_34 : decode cX12_planOrder 34 = .ok (.aload_n 0, 1) := by decide +kernel
theorem dX12_planOrder_35 : decode cX12_planOrder 35 = .ok (.getfield 29, 3) := by decide +kernel
theorem dX12_planOrder_38 : decode cX12_planOrder 38 = .ok (.iload_n 1, 1) := by decide +kernel
theorem dX12_planOrder_39 : decode cX12_planOrder 39 = .ok (.iaload, 1) := by decide +kernel
theorem dX12_planOrder_40 : decode cX12_planOrder 40 = .ok (.goto 5, 3) := by decide +kernel
theorem dX12_planOrder_43 : decode cX12_planOrder 43 = .ok (.bipush (-6), 2) := by decide +kernel
theorem dX12_planOrder_45 : decode cX12_planOrder 45 = .ok (.ireturn, 1) := by decide +kernel
theorem dX12_planOrders_0 : decode cX12_planOrders 0 = .ok (.aload_n 0, 1) := by decide +kernel
theorem dX12_planOrders_1 : decode cX12_planOrders 1 = .ok (.invokevirtual 142, 3) := by decide +kernel
theorem dX12_planOrders_4 : decode cX12_planOrders 4 = .ok (.aload_n 0, 1) := by decide +kernel
theorem dX12_planOrders_5 : decode cX12_planOrders 5 = .ok (.getfield 125, 3) := by decide +kernel
theorem dX12_planOrders_8 : decode cX12_planOrders 8 = .ok (.ireturn, 1) := by decide +kernel
theorem dX12_mustBeLast_0 : decode cX12_mustBeLast 0 = .ok (.aload_n 0, 1) := by decide +kernel
theorem dX12_mustBeLast_1 : decode cX12_mustBeLast 1 = .ok (.invokevirtual 142, 3) := by decide +kernel
theorem dX12_mustBeLast_4 : decode cX12_mustBeLast 4 = .ok (.bipush (-6), 2) := by decide +kernel
theorem dX12_mustBeLast_6 : decode cX12_mustBeLast 6 = .ok (.istore_n 1, 1) := by decide +kernel
theorem dX12_mustBeLast_7 : decode cX12_mustBeLast 7 = .ok (.iconst 0, 1) := by decide +kernel
theorem dX12_mustBeLast_8 : decode cX12_mustBeLast 8 = .ok (.istore_n 2, 1) := by decide +kernel
theorem dX12_mustBeLast_9 : decode cX12_mustBeLast 9 = .ok (.iload_n 2, 1) := by decide +kernel
theorem dX12_mustBeLast_10 : decode cX12_mustBeLast 10 = .ok (.bipush 6, 2) := by decide +kernel
theorem dX12_mustBeLast_12 : decode cX12_mustBeLast 12 = .ok (.if_icmp .ge 25, 3) := by decide +kernel
theorem dX12_mustBeLast_15 : decode cX12_mustBeLast 15 = .ok (.aload_n 0, 1) := by decide +kernel
theorem dX12_mustBeLast_16 : decode cX12_mustBeLast 16 = .ok (.getfield 128, 3) := by decide +kernel
theorem dX12_mustBeLast_19 : decode cX12_mustBeLast 19 = .ok (.iconst 1, 1) := by decide +kernel
theorem dX12_mustBeLast_20 : decode cX12_mustBeLast 20 = .ok (.iload_n 2, 1) := by decide +kernel
theorem dX12_mustBeLast_21 : decode cX12_mustBeLast 21 = .ok (.ishl, 1) := by decide +kernel
theorem dX12_mustBeLast_22 : decode cX12_mustBeLast 22 = .ok (.if_icmp .ne 7, 3) := by decide +kernel
theorem dX12_mustBeLast_25 : decode cX12_mustBeLast 25 = .ok (.iload_n 2, 1) := by decide +kernel
theorem dX12_mustBeLast_26 : decode cX12_mustBeLast 26 = .ok (.goto 4, 3) := by decide +kernel
theorem dX12_mustBeLast_29 : decode cX12_mustBeLast 29 = .ok (.iload_n 1, 1) := by decide +kernel
theorem dX12_mustBeLast_30 : decode cX12_mustBeLast 30 = .ok (.istore_n 1, 1) := by decide +kernel
theorem dX12_mustBeLast_31 : decode cX12_mustBeLast 31 = .ok (.iinc 2 1, 3) := by decide +kernel
theorem dX12_mustBeLast_34 : decode cX12_mustBeLast 34 = .ok (.goto (-25), 3) := by decide +kernel
theorem dX12_mustBeLast_37 : decode cX12_mustBeLast 37 = .ok (.iload_n 1, 1) := by decide +kernel
theorem dX12_mustBeLast_38 : decode cX12_mustBeLast 38 = .ok (.ireturn, 1) := by decide +kernel
theorem dX12_brassForPlan_0 : decode cX12_brassForPlan 0 = .ok (.aload_n 0, 1) := by decide +kernel
theorem dX12_brassForPlan_1 : decode cX12_brassForPlan 1 = .ok (.invokevirtual 142, 3) := by decide +kernel
theorem dX12_brassForPlan_4 : decode cX12_brassForPlan 4 = .ok (.aload_n 0, 1) := by decide +kernel
theorem dX12_brassForPlan_5 : decode cX12_brassForPlan 5 = .ok (.getfield 131, 3) := by decide +kernel
theorem dX12_brassForPlan_8 : decode cX12_brassForPlan 8 = .ok (.ireturn, 1) := by decide +kernel
theorem dX12_sign_0 : decode cX12_sign 0 = .ok (.aload_n 0, 1) := by decide +kernel
theorem dX12_sign_1 : decode cX12_sign 1 = .ok (.getfield 169, 3) := by decide +kernel
theorem dX12_sign_4 : decode cX12_sign 4 = .ok (.aload_n 0, 1) := by decide +kernel
theorem dX12_sign_5 : decode cX12_sign 5 = .ok (.getfield 157, 3) := by decide +kernel
theorem dX12_sign_8 : decode cX12_sign 8 = .ok (.if_icmp .ge 15, 3) := by decide +kernel
theorem dX12_sign_11 : decode cX12_sign 11 = .ok (.aload_n 0, 1) := by decide +kernel
theorem dX12_sign_12 : decode cX12_sign 12 = .ok (.getfield 23, 3) := by decide +kernel
theorem dX12_sign_15 : decode cX12_sign 15 = .ok (.aload_n 0, 1) := by decide +kernel
theorem dX12_sign_16 : decode cX12_sign 16 = .ok (.getfield 169, 3) := by decide +kernel
theorem dX12_sign_19 : decode cX12_sign 19 = .ok (.iaload, 1) := by decide +kernel
theorem dX12_sign_20 : decode cX12_sign 20 = .ok (.goto 4, 3) := by decide +kernel
theorem dX12_sign_23 : decode cX12_sign 23 = .ok (.iconst 0, 1) := by decide +kernel
theorem dX12_sign_24 : decode cX12_sign 24 = .ok (.ireturn, 1) := by decide +kernel
theorem dX12_one_0 : decode cX12_one 0 = .ok (.aload_n 0, 1) := by decide +kernel
theorem dX12_one_1 : decode cX12_one 1 = .ok (.invokevirtual 172, 3) := by decide +kernel
theorem dX12_one_4 : decode cX12_one 4 = .ok (.iload_n 1, 1) := by decide +kernel
theorem dX12_one_5 : decode cX12_one 5 = .ok (.isub, 1) := by decide +kernel
theorem dX12_one_6 : decode cX12_one 6 = .ok (.istore_n 3, 1) := by decide +kernel
theorem dX12_one_7 : decode cX12_one 7 = .ok (.aload_n 0, 1) := by decide +kernel
theorem dX12_one_8 : decode cX12_one 8 = .ok (.aload_n 0, 1) := by decide +kernel
theorem dX12_one_9 : decode cX12_one 9 = .ok (.getfield 175, 3) := by decide +kernel
theorem dX12_one_12 : decode cX12_one 12 = .ok (.ifCond .ne 12, 3) := by decide +kernel
theorem dX12_one_15 : decode cX12_one 15 = .ok (.iload_n 3, 1) := by decide +kernel
theorem dX12_one_16 : decode cX12_one 16 = .ok (.iconst 0, 1) := by decide +kernel
theorem dX12_one_17 : decode cX12_one 17 = .ok (.iload_n 2, 1) := by decide +kernel
theorem dX12_one_18 : decode cX12_one 18 = .ok (.invokestatic 41, 3) := by decide +kernel
theorem dX12_one_21 : decode cX12_one 21 = .ok (.ifCond .ne 7, 3) := by decide +kernel
theorem dX12_one_24 : decode cX12_one 24 = .ok (.iconst 1, 1) := by decide +kernel
theorem dX12_one_25 : decode cX12_one 25 = .ok (.goto 4, 3) := by decide +kernel
theorem dX12_one_28 : decode cX12_one 28 = .ok (.iconst 0, 1) := by decide +kernel
theorem dX12_one_29 : decode cX12_one 29 = .ok (.putfield 175, 3) := by decide +kernel
theorem dX12_one_32 : decode cX12_one 32 = .ok (.aload_n 0, 1) := by decide +kernel
theorem dX12_one_33 : decode cX12_one 33 = .ok (.dup, 1) := by decide +kernel
theorem dX12_one_34 : decode cX12_one 34 = .ok (.getfield 169, 3) := by decide +kernel
theorem dX12_one_37 : decode cX12_one 37 = .ok (.aload_n 0, 1) := by decide +kernel
theorem dX12_one_38 : decode cX12_one 38 = .ok (.getfield 175, 3) := by decide +kernel
theorem dX12_one_41 : decode cX12_one 41 = .ok (.ifCond .eq 7, 3) := by decide +kernel
theorem dX12_one_44 : decode cX12_one 44 = .ok (.iconst 0, 1) := by decide +kernel
theorem dX12_one_45 : decode cX12_one 45 = .ok (.goto 4, 3) := by decide +kernel
theorem dX12_one_48 : decode cX12_one 48 = .ok (.iconst 1, 1) := by decide +kernel
theorem dX12_one_49 : decode cX12_one 49 = .ok (.iadd, 1) := by decide +kernel
theorem dX12_one_50 : decode cX12_one 50 = .ok (.putfield 169, 3) := by decide +kernel
theorem dX12_one_53 : decode cX12_one 53 = .ok (.aload_n 0, 1) := by decide +kernel
theorem dX12_one_54 : decode cX12_one 54 = .ok (.getfield 175, 3) := by decide +kernel
theorem dX12_one_57 : decode cX12_one 57 = .ok (.ifCond .eq 7, 3) := by decide +kernel
theorem dX12_one_60 : decode cX12_one 60 = .ok (.iconst 0, 1) := by decide +kernel
theorem dX12_one_61 : decode cX12_one 61 = .ok (.goto 4, 3) := by decide +kernel
theorem dX12_one_64 : decode cX12_one 64 = .ok (.iload_n 3, 1) := by decide +kernel
theorem dX12_one_65 : decode cX12_one 65 = .ok (.ireturn, 1) := by decide +kernel
theorem dX12_number_0 : decode cX12_number 0 = .ok (.aload_n 0, 1) := by decide +kernel
theorem dX12_number_1 : decode cX12_number 1 = .ok (.bipush 48, 2) := by decide +kernel
theorem dX12_number_3 : decode cX12_number 3 = .ok (.bipush 9, 2) := by decide +kernel
theorem dX12_number_5 : decode cX12_number 5 = .ok (.invokevirtual 178, 3) := by decide +kernel
theorem dX12_number_8 : decode cX12_number 8 = .ok (.istore_n 1, 1) := by decide +kernel
theorem dX12_number_9 : decode cX12_number 9 = .ok (.aload_n 0, 1) := by decide +kernel
theorem dX12_number_10 : decode cX12_number 10 = .ok (.getfield 175, 3) := by decide +kernel
theorem dX12_number_13 : decode cX12_number 13 = .ok (.ifCond .ne 65, 3) := by decide +kernel
theorem dX12_number_16 : decode cX12_number 16 = .ok (.iload_n 1, 1) := by decide +kernel
theorem dX12_number_17 : decode cX12_number 17 = .ok (.ifCond .le 61, 3) := by decide +kernel
theorem dX12_number_20 : decode cX12_number 20 = .ok (.aload_n 0, 1) := by decide +kernel
theorem dX12_number_21 : decode cX12_number 21 = .ok (.invokevirtual 172, 3) := by decide +kernel
theorem dX12_number_24 : decode cX12_number 24 = .ok (.bipush 48, 2) := by decide +kernel
theorem dX12_number_26 : decode cX12_number 26 = .ok (.bipush 57, 2) := by decide +kernel
theorem dX12_number_28 : decode cX12_number 28 = .ok (.invokestatic 41, 3) := by decide +kernel
theorem dX12_number_31 : decode cX12_number 31 = .ok (.ifCond .eq 47, 3) := by decide +kernel
theorem dX12_number_34 : decode cX12_number 34 = .ok (.bipush 10, 2) := by decide +kernel
theorem dX12_number_36 : decode cX12_number 36 = .ok (.iload_n 1, 1) := by decide +kernel
theorem dX12_number_37 : decode cX12_number 37 = .ok (.imul, 1) := by decide +kernel
theorem dX12_number_38 : decode cX12_number 38 = .ok (.aload_n 0, 1) := by decide +kernel
theorem dX12_number_39 : decode cX12_number 39 = .ok (.invokevirtual 172, 3) := by decide +kernel
theorem dX12_number_42 : decode cX12_number 42 = .ok (.iadd, 1) := by decide +kernel
theorem dX12_number_43 : decode cX12_number 43 = .ok (.bipush 48, 2) := by decide +kernel
theorem dX12_number_45 : decode cX12_number 45 = .ok (.isub, 1) := by decide +kernel
theorem dX12_number_46 : decode cX12_number 46 = .ok (.sipush 999, 3) := by decide +kernel
theorem dX12_number_49 : decode cX12_number 49 = .ok (.if_icmp .gt 29, 3) := by decide +kernel
theorem dX12_number_52 : decode cX12_number 52 = .ok (.bipush 10, 2) := by decide +kernel
theorem dX12_number_54 : decode cX12_number 54 = .ok (.iload_n 1, 1) := by decide +kernel
theorem dX12_number_55 : decode cX12_number 55 = .ok (.imul, 1) := by decide +kernel
theorem dX12_number_56 : decode cX12_number 56 = .ok (.aload_n 0, 1) := by decide +kernel
theorem dX12_number_57 : decode cX12_number 57 = .ok (.invokevirtual 172, 3) := by decide +kernel
theorem dX12_number_60 : decode cX12_number 60 = .ok (.iadd, 1) := by decide +kernel
theorem dX12_number_61 : decode cX12_number 61 = .ok (.bipush 48, 2) := by decide +kernel
theorem dX12_number_63 : decode cX12_number 63 = .ok (.isub, 1) := by decide +kernel
theorem dX12_number_64 : decode cX12_number 64 = .ok (.istore_n 1, 1) := by decide +kernel
theorem dX12_number_65 : decode cX12_number 65 = .ok (.aload_n 0, 1) := by decide +kernel
theorem dX12_number_66 : decode cX12_number 66 = .ok (.dup, 1) := by decide +kernel
theorem dX12_number_67 : decode cX12_number 67 = .ok (.getfield 169, 3) := by decide +kernel
theorem dX12_number_70 : decode cX12_number 70 = .ok (.iconst 1, 1) := by decide +kernel
theorem dX12_number_71 : decode cX12_number 71 = .ok (.iadd, 1) := by decide +kernel
theorem dX12_number_72 : decode cX12_number 72 = .ok (.putfield 169, 3) := by decide +kernel
theorem dX12_number_75 : decode cX12_number 75 = .ok (.goto (-66), 3) := by decide +kernel
theorem dX12_number_78 : decode cX12_number 78 = .ok (.iload_n 1, 1) := by decide +kernel
theorem dX12_number_79 : decode cX12_number 79 = .ok (.ireturn, 1) := by decide +kernel
theorem dX12_cuts_0 : decode cX12_cuts 0 = .ok (.iconst 0, 1) := by decide +kernel
theorem dX12_cuts_1 : decode cX12_cuts 1 = .ok (.istore_n 1, 1) := by decide +kernel
theorem dX12_cuts_2 : decode cX12_cuts 2 = .ok (.iconst 0, 1) := by decide +kernel
theorem dX12_cuts_3 : decode cX12_cuts 3 = .ok (.istore_n 2, 1) := by decide +kernel
theorem dX12_cuts_4 : decode cX12_cuts 4 = .ok (.iload_n 2, 1) := by decide +kernel
theorem dX12_cuts_5 : decode cX12_cuts 5 = .ok (.iconst 4, 1) := by decide +kernel
theorem dX12_cuts_6 : decode cX12_cuts 6 = .ok (.if_icmp .ge 23, 3) := by decide +kernel
theorem dX12_cuts_9 : decode cX12_cuts 9 = .ok (.bipush 10, 2) := by decide +kernel
theorem dX12_cuts_11 : decode cX12_cuts 11 = .ok (.iload_n 1, 1) := by decide +kernel
theorem dX12_cuts_12 : decode cX12_cuts 12 = .ok (.imul, 1) := by decide +kernel
theorem dX12_cuts_13 : decode cX12_cuts 13 = .ok (.aload_n 0, 1) := by decide +kernel
theorem dX12_cuts_14 : decode cX12_cuts 14 = .ok (.bipush 48, 2) := by decide +kernel
theorem dX12_cuts_16 : decode cX12_cuts 16 = .ok (.bipush 9, 2) := by decide +kernel
theorem dX12_cuts_18 : decode cX12_cuts 18 = .ok (.invokevirtual 178, 3) := by decide +kernel
theorem dX12_cuts_21 : decode cX12_cuts 21 = .ok (.iadd, 1) := by decide +kernel
theorem dX12_cuts_22 : decode cX12_cuts 22 = .ok (.istore_n 1, 1) := by decide +kernel
theorem dX12_cuts_23 : decode cX12_cuts 23 = .ok (.iinc 2 1, 3) := by decide +kernel
theorem dX12_cuts_26 : decode cX12_cuts 26 = .ok (.goto (-22), 3) := by decide +kernel
theorem dX12_cuts_29 : decode cX12_cuts 29 = .ok (.iload_n 1, 1) := by decide +kernel
theorem dX12_cuts_30 : decode cX12_cuts 30 = .ok (.ireturn, 1) := by decide +kernel
theorem dX12_between_0 : decode cX12_between 0 = .ok (.aload_n 0, 1) := by decide +kernel
theorem dX12_between_1 : decode cX12_between 1 = .ok (.aload_n 0, 1) := by decide +kernel
theorem dX12_between_2 : decode cX12_between 2 = .ok (.getfield 175, 3) := by decide +kernel
theorem dX12_between_5 : decode cX12_between 5 = .ok (.ifCond .ne 11, 3) := by decide +kernel
theorem dX12_between_8 : decode cX12_between 8 = .ok (.aload_n 0, 1) := by decide +kernel
theorem dX12_between_9 : decode cX12_between 9 = .ok (.invokevirtual 172, 3) := by decide +kernel
theorem dX12_between_12 : decode cX12_between 12 = .ok (.iload_n 1, 1) := by decide +kernel
theorem dX12_between_13 : decode cX12_between 13 = .ok (.if_icmp .eq 7, 3) := by decide +kernel
theorem dX12_between_16 : decode cX12_between 16 = .ok (.iconst 1, 1) := by decide +kernel
theorem dX12_between_17 : decode cX12_between 17 = .ok (.goto 4, 3) := by decide +kernel
theorem dX12_between_20 : decode cX12_between 20 = .ok (.iconst 0, 1) := by decide +kernel
theorem dX12_between_21 : decode cX12_between 21 = .ok (.putfield 175, 3) := by decide +kernel
theorem dX12_between_24 : decode cX12_between 24 = .ok (.aload_n 0, 1) := by decide +kernel
theorem dX12_between_25 : decode cX12_between 25 = .ok (.dup, 1) := by decide +kernel
theorem dX12_between_26 : decode cX12_between 26 = .ok (.getfield 169, 3) := by decide +kernel
theorem dX12_between_29 : decode cX12_between 29 = .ok (.aload_n 0, 1) := by decide +kernel
theorem dX12_between_30 : decode cX12_between 30 = .ok (.getfield 175, 3) := by decide +kernel
theorem dX12_between_33 : decode cX12_between 33 = .ok (.ifCond .eq 7, 3) := by decide +kernel
theorem dX12_between_36 : decode cX12_between 36 = .ok (.iconst 0, 1) := by decide +kernel
theorem dX12_between_37 : decode cX12_between 37 = .ok (.goto 4, 3) := by decide +kernel
theorem dX12_between_40 : decode cX12_between 40 = .ok (.iconst 1, 1) := by decide +kernel
theorem dX12_between_41 : decode cX12_between 41 = .ok (.iadd, 1) := by decide +kernel
theorem dX12_between_42 : decode cX12_between 42 = .ok (.putfield 169, 3) := by decide +kernel
theorem dX12_between_45 : decode cX12_between 45 = .ok (.return_, 1) := by decide +kernel
theorem dX12_readOne_0 : decode cX12_readOne 0 = .ok (.iconst 4, 1) := by decide +kernel
theorem dX12_readOne_1 : decode cX12_readOne 1 = .ok (.aload_n 0, 1) := by decide +kernel
theorem dX12_readOne_2 : decode cX12_readOne 2 = .ok (.getfield 181, 3) := by decide +kernel
theorem dX12_readOne_5 : decode cX12_readOne 5 = .ok (.imul, 1) := by decide +kernel
theorem dX12_readOne_6 : decode cX12_readOne 6 = .ok (.istore_n 1, 1) := by decide +kernel
theorem dX12_readOne_7 : decode cX12_readOne 7 = .ok (.aload_n 0, 1) := by decide +kernel
theorem dX12_readOne_8 : decode cX12_readOne 8 = .ok (.invokevirtual 172, 3) := by decide +kernel
theorem dX12_readOne_11 : decode cX12_readOne 11 = .ok (.istore_n 2, 1) := by decide +kernel
theorem dX12_readOne_12 : decode cX12_readOne 12 = .ok (.aload_n 0, 1) := by decide +kernel
theorem dX12_readOne_13 : decode cX12_readOne 13 = .ok (.getfield 38, 3) := by decide +kernel
theorem dX12_readOne_16 : decode cX12_readOne 16 = .ok (.iload_n 1, 1) := by decide +kernel
theorem dX12_readOne_17 : decode cX12_readOne 17 = .ok (.iload_n 2, 1) := by decide +kernel
theorem dX12_readOne_18 : decode cX12_readOne 18 = .ok (.iastore, 1) := by decide +kernel
theorem dX12_readOne_19 : decode cX12_readOne 19 = .ok (.aload_n 0, 1) := by decide +kernel
theorem dX12_readOne_20 : decode cX12_readOne 20 = .ok (.iload_n 2, 1) := by decide +kernel
theorem dX12_readOne_21 : decode cX12_readOne 21 = .ok (.bipush 107, 2) := by decide +kernel
theorem dX12_readOne_23 : decode cX12_readOne 23 = .ok (.if_icmp .eq 37, 3) := by decide +kernel
theorem dX12_readOne_26 : decode cX12_readOne 26 = .ok (.iload_n 2, 1) := by decide +kernel
theorem dX12_readOne_27 : decode cX12_readOne 27 = .ok (.bipush 99, 2) := by decide +kernel
theorem dX12_readOne_29 : decode cX12_readOne 29 = .ok (.if_icmp .eq 31, 3) := by decide +kernel
theorem dX12_readOne_32 : decode cX12_readOne 32 = .ok (.iload_n 2, 1) := by decide +kernel
theorem dX12_readOne_33 : decode cX12_readOne 33 = .ok (.bipush 116, 2) := by decide +kernel
theorem dX12_readOne_35 : decode cX12_readOne 35 = .ok (.if_icmp .eq 25, 3) := by decide +kernel
theorem dX12_readOne_38 : decode cX12_readOne 38 = .ok (.iload_n 2, 1) := by decide +kernel
theorem dX12_readOne_39 : decode cX12_readOne 39 = .ok (.bipush 112, 2) := by decide +kernel
theorem dX12_readOne_41 : decode cX12_readOne 41 = .ok (.if_icmp .eq 19, 3) := by decide +kernel
theorem dX12_readOne_44 : decode cX12_readOne 44 = .ok (.iload_n 2, 1) := by decide +kernel
theorem dX12_readOne_45 : decode cX12_readOne 45 = .ok (.bipush 103, 2) := by decide +kernel
theorem dX12_readOne_47 : decode cX12_readOne 47 = .ok (.if_icmp .eq 13, 3) := by decide +kernel
theorem dX12_readOne_50 : decode cX12_readOne 50 = .ok (.iload_n 2, 1) := by decide +kernel
theorem dX12_readOne_51 : decode cX12_readOne 51 = .ok (.bipush 98, 2) := by decide +kernel
theorem dX12_readOne_53 : decode cX12_readOne 53 = .ok (.if_icmp .eq 7, 3) := by decide +kernel
theorem dX12_readOne_56 : decode cX12_readOne 56 = .ok (.iconst 1, 1) := by decide +kernel
theorem dX12_readOne_57 : decode cX12_readOne 57 = .ok (.goto 4, 3) := by decide +kernel
theorem dX12_readOne_60 : decode cX12_readOne 60 = .ok (.iconst 0, 1) := by decide +kernel
theorem dX12_readOne_61 : decode cX12_readOne 61 = .ok (.putfield 175, 3) := by decide +kernel
theorem dX12_readOne_64 : decode cX12_readOne 64 = .ok (.aload_n 0, 1) := by decide +kernel
theorem dX12_readOne_65 : decode cX12_readOne 65 = .ok (.getfield 175, 3) := by decide +kernel
theorem dX12_readOne_68 : decode cX12_readOne 68 = .ok (.ifCond .eq 4, 3) := by decide +kernel
theorem dX12_readOne_71 : decode cX12_readOne 71 = .ok (.return_, 1) := by decide +kernel
theorem dX12_readOne_72 : decode cX12_readOne 72 = .ok (.aload_n 0, 1) := by decide +kernel
theorem dX12_readOne_73 : decode cX12_readOne 73 = .ok (.dup, 1) := by decide +kernel
theorem dX12_readOne_74 : decode cX12_readOne 74 = .ok (.getfield 169, 3) := by decide +kernel
theorem dX12_readOne_77 : decode cX12_readOne 77 = .ok (.iconst 1, 1) := by decide +kernel
theorem dX12_readOne_78 : decode cX12_readOne 78 = .ok (.iadd, 1) := by decide +kernel
theorem dX12_readOne_79 : decode cX12_readOne 79 = .ok (.putfield 169, 3) := by decide +kernel
theorem dX12_readOne_82 : decode cX12_readOne 82 = .ok (.iload_n 2, 1) := by decide +kernel
theorem dX12_readOne_83 : decode cX12_readOne 83 = .ok (.tableswitch 157 98 107 #[142, 68, 157, 157, 157, 123, 157, 157, 157, 53], 53) := by decide +kernel
theorem dX12_readOne_136 : decode cX12_readOne 136 = .ok (.aload_n 0, 1) := by decide +kernel
theorem dX12_readOne_137 : decode cX12_readOne 137 = .ok (.getfield 38, 3) := by decide +kernel
theorem dX12_readOne_140 : decode cX12_readOne 140 = .ok (.iload_n 1, 1) := by decide +kernel
theorem dX12_readOne_141 : decode cX12_readOne 141 = .ok (.iconst 1, 1) := by decide +kernel
theorem dX12_readOne_142 : decode cX12_readOne 142 = .ok (.iadd, 1) := by decide +kernel
theorem dX12_readOne_143 : decode cX12_readOne 143 = .ok (.aload_n 0, 1) := by decide +kernel
theorem dX12_readOne_144 : decode cX12_readOne 144 = .ok (.invokevirtual 184, 3) := by decide +kernel
theorem dX12_readOne_147 : decode cX12_readOne 147 = .ok (.iastore, 1) := by decide +kernel
theorem dX12_readOne_148 : decode cX12_readOne 148 = .ok (.goto 108, 3) := by decide +kernel
theorem dX12_readOne_151 : decode cX12_readOne 151 = .ok (.aload_n 0, 1) := by decide +kernel
theorem dX12_readOne_152 : decode cX12_readOne 152 = .ok (.getfield 38, 3) := by decide +kernel
theorem dX12_readOne_155 : decode cX12_readOne 155 = .ok (.iload_n 1, 1) := by decide +kernel
theorem dX12_readOne_156 : decode cX12_readOne 156 = .ok (.iconst 1, 1) := by decide +kernel
theorem dX12_readOne_157 : decode cX12_readOne 157 = .ok (.iadd, 1) := by decide +kernel
theorem dX12_readOne_158 : decode cX12_readOne 158 = .ok (.aload_n 0, 1) := by decide +kernel
theorem dX12_readOne_159 : decode cX12_readOne 159 = .ok (.bipush 48, 2) := by decide +kernel
theorem dX12_readOne_161 : decode cX12_readOne 161 = .ok (.bipush 9, 2) := by decide +kernel
theorem dX12_readOne_163 : decode cX12_readOne 163 = .ok (.invokevirtual 178, 3) := by decide +kernel
theorem dX12_readOne_166 : decode cX12_readOne 166 = .ok (.iastore, 1) := by decide +kernel
theorem dX12_readOne_167 : decode cX12_readOne 167 = .ok (.aload_n 0, 1) := by decide +kernel
theorem dX12_readOne_168 : decode cX12_readOne 168 = .ok (.bipush 61, 2) := by decide +kernel
theorem dX12_readOne_170 : decode cX12_readOne 170 = .ok (.invokevirtual 187, 3) := by decide +kernel
theorem dX12_readOne_173 : decode cX12_readOne 173 = .ok (.aload_n 0, 1) := by decide +kernel
theorem dX12_readOne_174 : decode cX12_readOne 174 = .ok (.getfield 38, 3) := by decide +kernel
theorem dX12_readOne_177 : decode cX12_readOne 177 = .ok (.iload_n 1, 1) := by decide +kernel
theorem dX12_readOne_178 : decode cX12_readOne 178 = .ok (.iconst 2, 1) := by decide +kernel
theorem dX12_readOne_179 : decode cX12_readOne 179 = .ok (.iadd, 1) := by decide +kernel
theorem dX12_readOne_180 : decode cX12_readOne 180 = .ok (.aload_n 0, 1) := by decide +kernel
theorem dX12_readOne_181 : decode cX12_readOne 181 = .ok (.invokevirtual 184, 3) := by decide +kernel
theorem dX12_readOne_184 : decode cX12_readOne 184 = .ok (.iastore, 1) := by decide +kernel
theorem dX12_readOne_185 : decode cX12_readOne 185 = .ok (.aload_n 0, 1) := by decide +kernel
theorem dX12_readOne_186 : decode cX12_readOne 186 = .ok (.bipush 47, 2) := by decide +kernel
theorem dX12_readOne_188 : decode cX12_readOne 188 = .ok (.invokevirtual 187, 3) := by decide +kernel
theorem dX12_readOne_191 : decode cX12_readOne 191 = .ok (.aload_n 0, 1) := by decide +kernel
theorem dX12_readOne_192 : decode cX12_readOne 192 = .ok (.getfield 38, 3) := by decide +kernel
theorem dX12_readOne_195 : decode cX12_readOne 195 = .ok (.iload_n 1, 1) := by decide +kernel
theorem dX12_readOne_196 : decode cX12_readOne 196 = .ok (.iconst 3, 1) := by decide +kernel
theorem dX12_readOne_197 : decode cX12_readOne 197 = .ok (.iadd, 1) := by decide +kernel
theorem dX12_readOne_198 : decode cX12_readOne 198 = .ok (.aload_n 0, 1) := by decide +kernel
theorem dX12_readOne_199 : decode cX12_readOne 199 = .ok (.invokevirtual 184, 3) := by decide +kernel
theorem dX12_readOne_202 : decode cX12_readOne 202 = .ok (.iastore, 1) := by decide +kernel
theorem dX12_readOne_203 : decode cX12_readOne 203 = .ok (.goto 53, 3) := by decide +kernel
theorem dX12_readOne_206 : decode cX12_readOne 206 = .ok (.aload_n 0, 1) := by decide +kernel
theorem dX12_readOne_207 : decode cX12_readOne 207 = .ok (.getfield 38, 3) := by decide +kernel
theorem dX12_readOne_210 : decode cX12_readOne 210 = .ok (.iload_n 1, 1) := by decide +kernel
theorem dX12_readOne_211 : decode cX12_readOne 211 = .ok (.iconst 1, 1) := by decide +kernel
theorem dX12_readOne_212 : decode cX12_readOne 212 = .ok (.iadd, 1) := by decide +kernel
theorem dX12_readOne_213 : decode cX12_readOne 213 = .ok (.aload_n 0, 1) := by decide +kernel
theorem dX12_readOne_214 : decode cX12_readOne 214 = .ok (.bipush 48, 2) := by decide +kernel
theorem dX12_readOne_216 : decode cX12_readOne 216 = .ok (.bipush 9, 2) := by decide +kernel
theorem dX12_readOne_218 : decode cX12_readOne 218 = .ok (.invokevirtual 178, 3) := by decide +kernel
theorem dX12_readOne_221 : decode cX12_readOne 221 = .ok (.iastore, 1) := by decide +kernel
theorem dX12_readOne_222 : decode cX12_readOne 222 = .ok (.goto 34, 3) := by decide +kernel
theorem dX12_readOne_225 : decode cX12_readOne 225 = .ok (.aload_n 0, 1) := by decide +kernel
theorem dX12_readOne_226 : decode cX12_readOne 226 = .ok (.getfield 38, 3) := by decide +kernel
theorem dX12_readOne_229 : decode cX12_readOne 229 = .ok (.iload_n 1, 1) := by decide +kernel
theorem dX12_readOne_230 : decode cX12_readOne 230 = .ok (.iconst 1, 1) := by decide +kernel
theorem dX12_readOne_231 : decode cX12_readOne 231 = .ok (.iadd, 1) := by decide +kernel
theorem dX12_readOne_232 : decode cX12_readOne 232 = .ok (.aload_n 0, 1) := by decide +kernel
theorem dX12_readOne_233 : decode cX12_readOne 233 = .ok (.invokevirtual 191, 3) := by decide +kernel
theorem dX12_readOne_236 : decode cX12_readOne 236 = .ok (.iastore, 1) := by decide +kernel
theorem dX12_readOne_237 : decode cX12_readOne 237 = .ok (.goto 19, 3) := by decide +kernel
theorem dX12_readOne_240 : decode cX12_readOne 240 = .ok (.aload_n 0, 1) := by decide +kernel
theorem dX12_readOne_241 : decode cX12_readOne 241 = .ok (.getfield 38, 3) := by decide +kernel
theorem dX12_readOne_244 : decode cX12_readOne 244 = .ok (.iload_n 1, 1) := by decide +kernel
theorem dX12_readOne_245 : decode cX12_readOne 245 = .ok (.iconst 1, 1) := by decide +kernel
theorem dX12_readOne_246 : decode cX12_readOne 246 = .ok (.iadd, 1) := by decide +kernel
theorem dX12_readOne_247 : decode cX12_readOne 247 = .ok (.aload_n 0, 1) := by decide +kernel
theorem dX12_readOne_248 : decode cX12_readOne 248 = .ok (.bipush 65, 2) := by decide +kernel
theorem dX12_readOne_250 : decode cX12_readOne 250 = .ok (.bipush 15, 2) := by decide +kernel
theorem dX12_readOne_252 : decode cX12_readOne 252 = .ok (.invokevirtual 178, 3) := by decide +kernel
theorem dX12_readOne_255 : decode cX12_readOne 255 = .ok (.iastore, 1) := by decide +kernel
theorem dX12_readOne_256 : decode cX12_readOne 256 = .ok (.aload_n 0, 1) := by decide +kernel
theorem dX12_readOne_257 : decode cX12_readOne 257 = .ok (.dup, 1) := by decide +kernel
theorem dX12_readOne_258 : decode cX12_readOne 258 = .ok (.getfield 181, 3) := by decide +kernel
theorem dX12_readOne_261 : decode cX12_readOne 261 = .ok (.iconst 1, 1) := by decide +kernel
theorem dX12_readOne_262 : decode cX12_readOne 262 = .ok (.iadd, 1) := by decide +kernel
theorem dX12_readOne_263 : decode cX12_readOne 263 = .ok (.putfield 181, 3) := by decide +kernel
theorem dX12_readOne_266 : decode cX12_readOne 266 = .ok (.return_, 1) := by decide +kernel
theorem dX12_faultOf_0 : decode cX12_faultOf 0 = .ok (.aload_n 0, 1) := by decide +kernel
theorem dX12_faultOf_1 : decode cX12_faultOf 1 = .ok (.iconst 0, 1) := by decide +kernel
theorem dX12_faultOf_2 : decode cX12_faultOf 2 = .ok (.putfield 169, 3) := by decide +kernel
theorem dX12_faultOf_5 : decode cX12_faultOf 5 = .ok (.aload_n 0, 1) := by decide +kernel
theorem dX12_faultOf_6 : decode cX12_faultOf 6 = .ok (.iconst 0, 1) := by decide +kernel
theorem dX12_faultOf_7 : decode cX12_faultOf 7 = .ok (.putfield 181, 3) := by decide +kernel
theorem dX12_faultOf_10 : decode cX12_faultOf 10 = .ok (.aload_n 0, 1) := by decide +kernel
theorem dX12_faultOf_11 : decode cX12_faultOf 11 = .ok (.iconst 0, 1) := by decide +kernel
theorem dX12_faultOf_12 : decode cX12_faultOf 12 = .ok (.putfield 175, 3) := by decide +kernel
theorem dX12_faultOf_15 : decode cX12_faultOf 15 = .ok (.aload_n 0, 1) := by decide +kernel
theorem dX12_faultOf_16 : decode cX12_faultOf 16 = .ok (.invokevirtual 194, 3) := by decide +kernel
theorem dX12_faultOf_19 : decode cX12_faultOf 19 = .ok (.aload_n 0, 1) := by decide +kernel
theorem dX12_faultOf_20 : decode cX12_faultOf 20 = .ok (.getfield 175, 3) := by decide +kernel
theorem dX12_faultOf_23 : decode cX12_faultOf 23 = .ok (.ifCond .ne 56, 3) := by decide +kernel
theorem dX12_faultOf_26 : decode cX12_faultOf 26 = .ok (.aload_n 0, 1) := by decide +kernel
theorem dX12_faultOf_27 : decode cX12_faultOf 27 = .ok (.getfield 169, 3) := by decide +kernel
theorem dX12_faultOf_30 : decode cX12_faultOf 30 = .ok (.aload_n 0, 1) := by decide +kernel
theorem dX12_faultOf_31 : decode cX12_faultOf 31 = .ok (.getfield 157, 3) := by decide +kernel
theorem dX12_faultOf_34 : decode cX12_faultOf 34 = .ok (.if_icmp .ge 45, 3) := by decide +kernel
theorem dX12_faultOf_37 : decode cX12_faultOf 37 = .ok (.aload_n 0, 1) := by decide +kernel
theorem dX12_faultOf_38 : decode cX12_faultOf 38 = .ok (.aload_n 0, 1) := by decide +kernel
theorem dX12_faultOf_39 : decode cX12_faultOf 39 = .ok (.invokevirtual 172, 3) := by decide +kernel
theorem dX12_faultOf_42 : decode cX12_faultOf 42 = .ok (.bipush 59, 2) := by decide +kernel
theorem dX12_faultOf_44 : decode cX12_faultOf 44 = .ok (.if_icmp .eq 7, 3) := by decide +kernel
theorem dX12_faultOf_47 : decode cX12_faultOf 47 = .ok (.iconst 1, 1) := by decide +kernel
theorem dX12_faultOf_48 : decode cX12_faultOf 48 = .ok (.goto 4, 3) := by decide +kernel
theorem dX12_faultOf_51 : decode cX12_faultOf 51 = .ok (.iconst 0, 1) := by decide +kernel
theorem dX12_faultOf_52 : decode cX12_faultOf 52 = .ok (.putfield 175, 3) := by decide +kernel
theorem dX12_faultOf_55 : decode cX12_faultOf 55 = .ok (.aload_n 0, 1) := by decide +kernel
theorem dX12_faultOf_56 : decode cX12_faultOf 56 = .ok (.getfield 175, 3) := by decide +kernel
theorem dX12_faultOf_59 : decode cX12_faultOf 59 = .ok (.ifCond .ne (-40), 3) := by decide +kernel
theorem dX12_faultOf_62 : decode cX12_faultOf 62 = .ok (.aload_n 0, 1) := by decide +kernel
theorem dX12_faultOf_63 : decode cX12_faultOf 63 = .ok (.dup, 1) := by decide +kernel
theorem dX12_faultOf_64 : decode cX12_faultOf 64 = .ok (.getfield 169, 3) := by decide +kernel
theorem dX12_faultOf_67 : decode cX12_faultOf 67 = .ok (.iconst 1, 1) := by decide +kernel
theorem dX12_faultOf_68 : decode cX12_faultOf 68 = .ok (.iadd, 1) := by decide +kernel
theorem dX12_faultOf_69 : decode cX12_faultOf 69 = .ok (.putfield 169, 3) := by decide +kernel
theorem dX12_faultOf_72 : decode cX12_faultOf 72 = .ok (.aload_n 0, 1) := by decide +kernel
theorem dX12_faultOf_73 : decode cX12_faultOf 73 = .ok (.invokevirtual 194, 3) := by decide +kernel
theorem dX12_faultOf_76 : decode cX12_faultOf 76 = .ok (.goto (-57), 3) := by decide +kernel
theorem dX12_faultOf_79 : decode cX12_faultOf 79 = .ok (.aload_n 0, 1) := by decide +kernel
theorem dX12_faultOf_80 : decode cX12_faultOf 80 = .ok (.getfield 175, 3) := by decide +kernel
theorem dX12_faultOf_83 : decode cX12_faultOf 83 = .ok (.ifCond .eq 10, 3) := by decide +kernel
theorem dX12_faultOf_86 : decode cX12_faultOf 86 = .ok (.aload_n 0, 1) := by decide +kernel
theorem dX12_faultOf_87 : decode cX12_faultOf 87 = .ok (.getfield 169, 3) := by decide +kernel
theorem dX12_faultOf_90 : decode cX12_faultOf 90 = .ok (.goto 5, 3) := by decide +kernel
theorem dX12_faultOf_93 : decode cX12_faultOf 93 = .ok (.bipush (-6), 2) := by decide +kernel
theorem dX12_faultOf_95 : decode cX12_faultOf 95 = .ok (.ireturn, 1) := by decide +kernel
theorem dX12_put_0 : decode cX12_put 0 = .ok (.iconst 0, 1) := by decide +kernel
theorem dX12_put_1 : decode cX12_put 1 = .ok (.istore_n 3, 1) := by decide +kernel
theorem dX12_put_2 : decode cX12_put 2 = .ok (.lload_n 1, 1) := by decide +kernel
theorem dX12_put_3 : decode cX12_put 3 = .ok (.lstore 4, 2) := by decide +kernel
theorem dX12_put_5 : decode cX12_put 5 = .ok (.lload 4, 2) := by decide +kernel
theorem dX12_put_7 : decode cX12_put 7 = .ok (.ldc2_w 197, 3) := by decide +kernel
theorem dX12_put_10 : decode cX12_put 10 = .ok (.land, 1) := by decide +kernel
theorem dX12_put_11 : decode cX12_put 11 = .ok (.lconst 0, 1) := by decide +kernel
theorem dX12_put_12 : decode cX12_put 12 = .ok (.lcmp, 1) := by decide +kernel
theorem dX12_put_13 : decode cX12_put 13 = .ok (.ifCond .eq 36, 3) := by decide +kernel
theorem dX12_put_16 : decode cX12_put 16 = .ok (.lload 4, 2) := by decide +kernel
theorem dX12_put_18 : decode cX12_put 18 = .ok (.ldc2_w 197, 3) := by decide +kernel
theorem dX12_put_21 : decode cX12_put 21 = .ok (.land, 1) := by decide +kernel
theorem dX12_put_22 : decode cX12_put 22 = .ok (.l2i, 1) := by decide +kernel
theorem dX12_put_23 : decode cX12_put 23 = .ok (.bipush 33, 2) := by decide +kernel
theorem dX12_put_25 : decode cX12_put 25 = .ok (.bipush 126, 2) := by decide +kernel
theorem dX12_put_27 : decode cX12_put 27 = .ok (.invokestatic 41, 3) := by decide +kernel
theorem dX12_put_30 : decode cX12_put 30 = .ok (.ifCond .ne 6, 3) := by decide +kernel
theorem dX12_put_33 : decode cX12_put 33 = .ok (.bipush (-2), 2) := by decide +kernel
theorem dX12_put_35 : decode cX12_put 35 = .ok (.ireturn, 1) := by decide +kernel
theorem dX12_put_36 : decode cX12_put 36 = .ok (.iinc 3 1, 3) := by decide +kernel
theorem dX12_put_39 : decode cX12_put 39 = .ok (.lload 4, 2) := by decide +kernel
theorem dX12_put_41 : decode cX12_put 41 = .ok (.bipush 8, 2) := by decide +kernel
theorem dX12_put_43 : decode cX12_put 43 = .ok (.lushr, 1) := by decide +kernel
theorem dX12_put_44 : decode cX12_put 44 = .ok (.lstore 4, 2) := by decide +kernel
theorem dX12_put_46 : decode cX12_put 46 = .ok (.goto (-41), 3) := by decide +kernel
theorem dX12_put_49 : decode cX12_put 49 = .ok (.lload 4, 2) := by decide +kernel
theorem dX12_put_51 : decode cX12_put 51 = .ok (.lconst 0, 1) := by decide +kernel
theorem dX12_put_52 : decode cX12_put 52 = .ok (.lcmp, 1) := by decide +kernel
theorem dX12_put_53 : decode cX12_put 53 = .ok (.ifCond .ne 7, 3) := by decide +kernel
theorem dX12_put_56 : decode cX12_put 56 = .ok (.iload_n 3, 1) := by decide +kernel
theorem dX12_put_57 : decode cX12_put 57 = .ok (.ifCond .ne 6, 3) := by decide +kernel
theorem dX12_put_60 : decode cX12_put 60 = .ok (.bipush (-2), 2) := by decide +kernel
theorem dX12_put_62 : decode cX12_put 62 = .ok (.ireturn, 1) := by decide +kernel
theorem dX12_put_63 : decode cX12_put 63 = .ok (.aload_n 0, 1) := by decide +kernel
theorem dX12_put_64 : decode cX12_put 64 = .ok (.getfield 157, 3) := by decide +kernel
theorem dX12_put_67 : decode cX12_put 67 = .ok (.iload_n 3, 1) := by decide +kernel
theorem dX12_put_68 : decode cX12_put 68 = .ok (.iadd, 1) := by decide +kernel
theorem dX12_put_69 : decode cX12_put 69 = .ok (.bipush 80, 2) := by decide +kernel
theorem dX12_put_71 : decode cX12_put 71 = .ok (.if_icmp .le 6, 3) := by decide +kernel
theorem dX12_put_74 : decode cX12_put 74 = .ok (.bipush (-4), 2) := by decide +kernel
theorem dX12_put_76 : decode cX12_put 76 = .ok (.ireturn, 1) := by decide +kernel
theorem dX12_put_77 : decode cX12_put 77 = .ok (.lload_n 1, 1) := by decide +kernel
theorem dX12_put_78 : decode cX12_put 78 = .ok (.lstore 4, 2) := by decide +kernel
theorem dX12_put_80 : decode cX12_put 80 = .ok (.iload_n 3, 1) := by decide +kernel
theorem dX12_put_81 : decode cX12_put 81 = .ok (.iconst 1, 1) := by decide +kernel
theorem dX12_put_82 : decode cX12_put 82 = .ok (.isub, 1) := by decide +kernel
theorem dX12_put_83 : decode cX12_put 83 = .ok (.istore 6, 2) := by decide +kernel
theorem dX12_put_85 : decode cX12_put 85 = .ok (.iload 6, 2) := by decide +kernel
theorem dX12_put_87 : decode cX12_put 87 = .ok (.ifCond .lt 35, 3) := by decide +kernel
theorem dX12_put_90 : decode cX12_put 90 = .ok (.aload_n 0, 1) := by decide +kernel
theorem dX12_put_91 : decode cX12_put 91 = .ok (.getfield 23, 3) := by decide +kernel
theorem dX12_put_94 : decode cX12_put 94 = .ok (.aload_n 0, 1) := by decide +kernel
theorem dX12_put_95 : decode cX12_put 95 = .ok (.getfield 157, 3) := by decide +kernel
theorem dX12_put_98 : decode cX12_put 98 = .ok (.iload 6, 2) := by decide +kernel
theorem dX12_put_100 : decode cX12_put 100 = .ok (.iadd, 1) := by decide +kernel
theorem dX12_put_101 : decode cX12_put 101 = .ok (.lload 4, 2) := by decide +kernel
theorem dX12_put_103 : decode cX12_put 103 = .ok (.ldc2_w 197, 3) := by decide +kernel
theorem dX12_put_106 : decode cX12_put 106 = .ok (.land, 1) := by decide +kernel
theorem dX12_put_107 : decode cX12_put 107 = .ok (.l2i, 1) := by decide +kernel
theorem dX12_put_108 : decode cX12_put 108 = .ok (.iastore, 1) := by decide +kernel
theorem dX12_put_109 : decode cX12_put 109 = .ok (.lload 4, 2) := by decide +kernel
theorem dX12_put_111 : decode cX12_put 111 = .ok (.bipush 8, 2) := by decide +kernel
theorem dX12_put_113 : decode cX12_put 113 = .ok (.lushr, 1) := by decide +kernel
theorem dX12_put_114 : decode cX12_put 114 = .ok (.lstore 4, 2) := by decide +kernel
theorem dX12_put_116 : decode cX12_put 116 = .ok (.iinc 6 (-1), 3) := by decide +kernel
theorem dX12_put_119 : decode cX12_put 119 = .ok (.goto (-34), 3) := by decide +kernel
theorem dX12_put_122 : decode cX12_put 122 = .ok (.aload_n 0, 1) := by decide +kernel
theorem dX12_put_123 : decode cX12_put 123 = .ok (.dup, 1) := by decide +kernel
theorem dX12_put_124 : decode cX12_put 124 = .ok (.getfield 157, 3) := by decide +kernel
theorem dX12_put_127 : decode cX12_put 127 = .ok (.iload_n 3, 1) := by decide +kernel
theorem dX12_put_128 : decode cX12_put 128 = .ok (.iadd, 1) := by decide +kernel
theorem dX12_put_129 : decode cX12_put 129 = .ok (.putfield 157, 3) := by decide +kernel
theorem dX12_put_132 : decode cX12_put 132 = .ok (.aload_n 0, 1) := by decide +kernel
theorem dX12_put_133 : decode cX12_put 133 = .ok (.getfield 157, 3) := by decide +kernel
theorem dX12_put_136 : decode cX12_put 136 = .ok (.ireturn, 1) := by decide +kernel
theorem dX12_wipe_0 : decode cX12_wipe 0 = .ok (.aload_n 0, 1) := by decide +kernel
theorem dX12_wipe_1 : decode cX12_wipe 1 = .ok (.getfield 157, 3) := by decide +kernel
theorem dX12_wipe_4 : decode cX12_wipe 4 = .ok (.istore_n 1, 1) := by decide +kernel
theorem dX12_wipe_5 : decode cX12_wipe 5 = .ok (.aload_n 0, 1) := by decide +kernel
theorem dX12_wipe_6 : decode cX12_wipe 6 = .ok (.iconst 0, 1) := by decide +kernel
theorem dX12_wipe_7 : decode cX12_wipe 7 = .ok (.putfield 157, 3) := by decide +kernel
theorem dX12_wipe_10 : decode cX12_wipe 10 = .ok (.iload_n 1, 1) := by decide +kernel
theorem dX12_wipe_11 : decode cX12_wipe 11 = .ok (.ireturn, 1) := by decide +kernel
theorem dX12_fault_0 : decode cX12_fault 0 = .ok (.aload_n 0, 1) := by decide +kernel
theorem dX12_fault_1 : decode cX12_fault 1 = .ok (.invokevirtual 199, 3) := by decide +kernel
theorem dX12_fault_4 : decode cX12_fault 4 = .ok (.ireturn, 1) := by decide +kernel
theorem dX12_carry_0 : decode cX12_carry 0 = .ok (.aload_n 0, 1) := by decide +kernel
theorem dX12_carry_1 : decode cX12_carry 1 = .ok (.getfield 38, 3) := by decide +kernel
theorem dX12_carry_4 : decode cX12_carry 4 = .ok (.iload_n 1, 1) := by decide +kernel
theorem dX12_carry_5 : decode cX12_carry 5 = .ok (.iconst 1, 1) := by decide +kernel
theorem dX12_carry_6 : decode cX12_carry 6 = .ok (.iadd, 1) := by decide +kernel
theorem dX12_carry_7 : decode cX12_carry 7 = .ok (.iaload, 1) := by decide +kernel
theorem dX12_carry_8 : decode cX12_carry 8 = .ok (.istore_n 2, 1) := by decide +kernel
theorem dX12_carry_9 : decode cX12_carry 9 = .ok (.aload_n 0, 1) := by decide +kernel
theorem dX12_carry_10 : decode cX12_carry 10 = .ok (.getfield 38, 3) := by decide +kernel
theorem dX12_carry_13 : decode cX12_carry 13 = .ok (.iload_n 1, 1) := by decide +kernel
theorem dX12_carry_14 : decode cX12_carry 14 = .ok (.iaload, 1) := by decide +kernel
theorem dX12_carry_15 : decode cX12_carry 15 = .ok (.lookupswitch 101 #[(99, 61), (103, 95), (107, 49), (112, 89), (116, 83)], 49) := by decide +kernel
theorem dX12_carry_64 : decode cX12_carry 64 = .ok (.aload_n 0, 1) := by decide +kernel
theorem dX12_carry_65 : decode cX12_carry 65 = .ok (.iload_n 2, 1) := by decide +kernel
theorem dX12_carry_66 : decode cX12_carry 66 = .ok (.aload_n 0, 1) := by decide +kernel
theorem dX12_carry_67 : decode cX12_carry 67 = .ok (.getfield 7, 3) := by decide +kernel
theorem dX12_carry_70 : decode cX12_carry 70 = .ok (.iconst 3, 1) := by decide +kernel
theorem dX12_carry_71 : decode cX12_carry 71 = .ok (.iaload, 1) := by decide +kernel
theorem dX12_carry_72 : decode cX12_carry 72 = .ok (.invokevirtual 202, 3) := by decide +kernel
theorem dX12_carry_75 : decode cX12_carry 75 = .ok (.ireturn, 1) := by decide +kernel
theorem dX12_carry_76 : decode cX12_carry 76 = .ok (.aload_n 0, 1) := by decide +kernel
theorem dX12_carry_77 : decode cX12_carry 77 = .ok (.iload_n 2, 1) := by decide +kernel
theorem dX12_carry_78 : decode cX12_carry 78 = .ok (.aload_n 0, 1) := by decide +kernel
theorem dX12_carry_79 : decode cX12_carry 79 = .ok (.getfield 38, 3) := by decide +kernel
theorem dX12_carry_82 : decode cX12_carry 82 = .ok (.iload_n 1, 1) := by decide +kernel
theorem dX12_carry_83 : decode cX12_carry 83 = .ok (.iconst 2, 1) := by decide +kernel
theorem dX12_carry_84 : decode cX12_carry 84 = .ok (.iadd, 1) := by decide +kernel
theorem dX12_carry_85 : decode cX12_carry 85 = .ok (.iaload, 1) := by decide +kernel
theorem dX12_carry_86 : decode cX12_carry 86 = .ok (.aload_n 0, 1) := by decide +kernel
theorem dX12_carry_87 : decode cX12_carry 87 = .ok (.getfield 38, 3) := by decide +kernel
theorem dX12_carry_90 : decode cX12_carry 90 = .ok (.iload_n 1, 1) := by decide +kernel
theorem dX12_carry_91 : decode cX12_carry 91 = .ok (.iconst 3, 1) := by decide +kernel
theorem dX12_carry_92 : decode cX12_carry 92 = .ok (.iadd, 1) := by decide +kernel
theorem dX12_carry_93 : decode cX12_carry 93 = .ok (.iaload, 1) := by decide +kernel
theorem dX12_carry_94 : decode cX12_carry 94 = .ok (.invokevirtual 205, 3) := by decide +kernel
theorem dX12_carry_97 : decode cX12_carry 97 = .ok (.ireturn, 1) := by decide +kernel
theorem dX12_carry_98 : decode cX12_carry 98 = .ok (.aload_n 0, 1) := by decide +kernel
theorem dX12_carry_99 : decode cX12_carry 99 = .ok (.iload_n 2, 1) := by decide +kernel
theorem dX12_carry_100 : decode cX12_carry 100 = .ok (.invokevirtual 208, 3) := by decide +kernel
theorem dX12_carry_103 : decode cX12_carry 103 = .ok (.ireturn, 1) := by decide +kernel
theorem dX12_carry_104 : decode cX12_carry 104 = .ok (.aload_n 0, 1) := by decide +kernel
theorem dX12_carry_105 : decode cX12_carry 105 = .ok (.iload_n 2, 1) := by decide +kernel
theorem dX12_carry_106 : decode cX12_carry 106 = .ok (.invokevirtual 211, 3) := by decide +kernel
theorem dX12_carry_109 : decode cX12_carry 109 = .ok (.ireturn, 1) := by decide +kernel
theorem dX12_carry_110 : decode cX12_carry 110 = .ok (.aload_n 0, 1) := by decide +kernel
theorem dX12_carry_111 : decode cX12_carry 111 = .ok (.iload_n 2, 1) := by decide +kernel
theorem dX12_carry_112 : decode cX12_carry 112 = .ok (.invokevirtual 214, 3) := by decide +kernel
theorem dX12_carry_115 : decode cX12_carry 115 = .ok (.ireturn, 1) := by decide +kernel
theorem dX12_carry_116 : decode cX12_carry 116 = .ok (.aload_n 0, 1) := by decide +kernel
theorem dX12_carry_117 : decode cX12_carry 117 = .ok (.iload_n 2, 1) := by decide +kernel
theorem dX12_carry_118 : decode cX12_carry 118 = .ok (.invokevirtual 217, 3) := by decide +kernel
theorem dX12_carry_121 : decode cX12_carry 121 = .ok (.ireturn, 1) := by decide +kernel
theorem dX12_carryOut_0 : decode cX12_carryOut 0 = .ok (.aload_n 0, 1) := by decide +kernel
theorem dX12_carryOut_1 : decode cX12_carryOut 1 = .ok (.invokevirtual 199, 3) := by decide +kernel
theorem dX12_carryOut_4 : decode cX12_carryOut 4 = .ok (.bipush (-6), 2) := by decide +kernel
theorem dX12_carryOut_6 : decode cX12_carryOut 6 = .ok (.if_icmp .eq 6, 3) := by decide +kernel
theorem dX12_carryOut_9 : decode cX12_carryOut 9 = .ok (.bipush (-3), 2) := by decide +kernel
theorem dX12_carryOut_11 : decode cX12_carryOut 11 = .ok (.ireturn, 1) := by decide +kernel
theorem dX12_carryOut_12 : decode cX12_carryOut 12 = .ok (.aload_n 0, 1) := by decide +kernel
theorem dX12_carryOut_13 : decode cX12_carryOut 13 = .ok (.invokevirtual 53, 3) := by decide +kernel
theorem dX12_carryOut_16 : decode cX12_carryOut 16 = .ok (.aload_n 0, 1) := by decide +kernel
theorem dX12_carryOut_17 : decode cX12_carryOut 17 = .ok (.iconst 1, 1) := by decide +kernel
theorem dX12_carryOut_18 : decode cX12_carryOut 18 = .ok (.putfield 45, 3) := by decide +kernel
theorem dX12_carryOut_21 : decode cX12_carryOut 21 = .ok (.iconst 0, 1) := by decide +kernel
theorem dX12_carryOut_22 : decode cX12_carryOut 22 = .ok (.istore_n 1, 1) := by decide +kernel
theorem dX12_carryOut_23 : decode cX12_carryOut 23 = .ok (.iload_n 1, 1) := by decide +kernel
theorem dX12_carryOut_24 : decode cX12_carryOut 24 = .ok (.aload_n 0, 1) := by decide +kernel
theorem dX12_carryOut_25 : decode cX12_carryOut 25 = .ok (.getfield 181, 3) := by decide +kernel
theorem dX12_carryOut_28 : decode cX12_carryOut 28 = .ok (.if_icmp .ge 19, 3) := by decide +kernel
theorem dX12_carryOut_31 : decode cX12_carryOut 31 = .ok (.aload_n 0, 1) := by decide +kernel
theorem dX12_carryOut_32 : decode cX12_carryOut 32 = .ok (.iconst 4, 1) := by decide +kernel
theorem dX12_carryOut_33 : decode cX12_carryOut 33 = .ok (.iload_n 1, 1) := by decide +kernel
theorem dX12_carryOut_34 : decode cX12_carryOut 34 = .ok (.imul, 1) := by decide +kernel
theorem dX12_carryOut_35 : decode cX12_carryOut 35 = .ok (.invokevirtual 220, 3) := by decide +kernel
theorem dX12_carryOut_38 : decode cX12_carryOut 38 = .ok (.ifCond .lt 9, 3) := by decide +kernel
theorem dX12_carryOut_41 : decode cX12_carryOut 41 = .ok (.iinc 1 1, 3) := by decide +kernel
theorem dX12_carryOut_44 : decode cX12_carryOut 44 = .ok (.goto (-21), 3) := by decide +kernel
theorem dX12_carryOut_47 : decode cX12_carryOut 47 = .ok (.aload_n 0, 1) := by decide +kernel
theorem dX12_carryOut_48 : decode cX12_carryOut 48 = .ok (.iconst 0, 1) := by decide +kernel
theorem dX12_carryOut_49 : decode cX12_carryOut 49 = .ok (.putfield 45, 3) := by decide +kernel
theorem dX12_carryOut_52 : decode cX12_carryOut 52 = .ok (.aload_n 0, 1) := by decide +kernel
theorem dX12_carryOut_53 : decode cX12_carryOut 53 = .ok (.iconst 0, 1) := by decide +kernel
theorem dX12_carryOut_54 : decode cX12_carryOut 54 = .ok (.putfield 157, 3) := by decide +kernel
theorem dX12_carryOut_57 : decode cX12_carryOut 57 = .ok (.iload_n 1, 1) := by decide +kernel
theorem dX12_carryOut_58 : decode cX12_carryOut 58 = .ok (.ireturn, 1) := by decide +kernel
theorem dX12_undo_0 : decode cX12_undo 0 = .ok (.aload_n 0, 1) := by decide +kernel
theorem dX12_undo_1 : decode cX12_undo 1 = .ok (.getfield 49, 3) := by decide +kernel
theorem dX12_undo_4 : decode cX12_undo 4 = .ok (.ifCond .ne 6, 3) := by decide +kernel
theorem dX12_undo_7 : decode cX12_undo 7 = .ok (.bipush (-5), 2) := by decide +kernel
theorem dX12_undo_9 : decode cX12_undo 9 = .ok (.ireturn, 1) := by decide +kernel
theorem dX12_undo_10 : decode cX12_undo 10 = .ok (.aload_n 0, 1) := by decide +kernel
theorem dX12_undo_11 : decode cX12_undo 11 = .ok (.dup, 1) := by decide +kernel
theorem dX12_undo_12 : decode cX12_undo 12 = .ok (.getfield 49, 3) := by decide +kernel
theorem dX12_undo_15 : decode cX12_undo 15 = .ok (.iconst 1, 1) := by decide +kernel
theorem dX12_undo_16 : decode cX12_undo 16 = .ok (.isub, 1) := by decide +kernel
theorem dX12_undo_17 : decode cX12_undo 17 = .ok (.putfield 49, 3) := by decide +kernel
theorem dX12_undo_20 : decode cX12_undo 20 = .ok (.iconst 0, 1) := by decide +kernel
theorem dX12_undo_21 : decode cX12_undo 21 = .ok (.istore_n 1, 1) := by decide +kernel
theorem dX12_undo_22 : decode cX12_undo 22 = .ok (.iload_n 1, 1) := by decide +kernel
theorem dX12_undo_23 : decode cX12_undo 23 = .ok (.sipush 170, 3) := by decide +kernel
theorem dX12_undo_26 : decode cX12_undo 26 = .ok (.if_icmp .ge 30, 3) := by decide +kernel
theorem dX12_undo_29 : decode cX12_undo 29 = .ok (.aload_n 0, 1) := by decide +kernel
theorem dX12_undo_30 : decode cX12_undo 30 = .ok (.getfield 7, 3) := by decide +kernel
theorem dX12_undo_33 : decode cX12_undo 33 = .ok (.iload_n 1, 1) := by decide +kernel
theorem dX12_undo_34 : decode cX12_undo 34 = .ok (.aload_n 0, 1) := by decide +kernel
theorem dX12_undo_35 : decode cX12_undo 35 = .ok (.getfield 13, 3) := by decide +kernel
theorem dX12_undo_38 : decode cX12_undo 38 = .ok (.aload_n 0, 1) := by decide +kernel
theorem dX12_undo_39 : decode cX12_undo 39 = .ok (.getfield 49, 3) := by decide +kernel
theorem dX12_undo_42 : decode cX12_undo 42 = .ok (.sipush 170, 3) := by decide +kernel
theorem dX12_undo_45 : decode cX12_undo 45 = .ok (.imul, 1) := by decide +kernel
theorem dX12_undo_46 : decode cX12_undo 46 = .ok (.iload_n 1, 1) := by decide +kernel
theorem dX12_undo_47 : decode cX12_undo 47 = .ok (.iadd, 1) := by decide +kernel
theorem dX12_undo_48 : decode cX12_undo 48 = .ok (.iaload, 1) := by decide +kernel
theorem dX12_undo_49 : decode cX12_undo 49 = .ok (.iastore, 1) := by decide +kernel
theorem dX12_undo_50 : decode cX12_undo 50 = .ok (.iinc 1 1, 3) := by decide +kernel
theorem dX12_undo_53 : decode cX12_undo 53 = .ok (.goto (-31), 3) := by decide +kernel
theorem dX12_undo_56 : decode cX12_undo 56 = .ok (.aload_n 0, 1) := by decide +kernel
theorem dX12_undo_57 : decode cX12_undo 57 = .ok (.getfield 49, 3) := by decide +kernel
theorem dX12_undo_60 : decode cX12_undo 60 = .ok (.ireturn, 1) := by decide +kernel
theorem dX12_save_0 : decode cX12_save 0 = .ok (.iload_n 1, 1) := by decide +kernel
theorem dX12_save_1 : decode cX12_save 1 = .ok (.iconst 0, 1) := by decide +kernel
theorem dX12_save_2 : decode cX12_save 2 = .ok (.iconst 1, 1) := by decide +kernel
theorem dX12_save_3 : decode cX12_save 3 = .ok (.invokestatic 41, 3) := by decide +kernel
theorem dX12_save_6 : decode cX12_save 6 = .ok (.ifCond .ne 6, 3) := by decide +kernel
theorem dX12_save_9 : decode cX12_save 9 = .ok (.bipush (-2), 2) := by decide +kernel
theorem dX12_save_11 : decode cX12_save 11 = .ok (.ireturn, 1) := by decide +kernel
theorem dX12_save_12 : decode cX12_save 12 = .ok (.iconst 0, 1) := by decide +kernel
theorem dX12_save_13 : decode cX12_save 13 = .ok (.istore_n 2, 1) := by decide +kernel
theorem dX12_save_14 : decode cX12_save 14 = .ok (.iload_n 2, 1) := by decide +kernel
theorem dX12_save_15 : decode cX12_save 15 = .ok (.sipush 170, 3) := by decide +kernel
theorem dX12_save_18 : decode cX12_save 18 = .ok (.if_icmp .ge 27, 3) := by decide +kernel
theorem dX12_save_21 : decode cX12_save 21 = .ok (.aload_n 0, 1) := by decide +kernel
theorem dX12_save_22 : decode cX12_save 22 = .ok (.getfield 16, 3) := by decide +kernel
theorem dX12_save_25 : decode cX12_save 25 = .ok (.iload_n 1, 1) := by decide +kernel
theorem dX12_save_26 : decode cX12_save 26 = .ok (.sipush 170, 3) := by decide +kernel
theorem dX12_save_29 : decode cX12_save 29 = .ok (.imul, 1) := by decide +kernel
theorem dX12_save_30 : decode cX12_save 30 = .ok (.iload_n 2, 1) := by decide +kernel
theorem dX12_save_31 : decode cX12_save 31 = .ok (.iadd, 1) := by decide +kernel
theorem dX12_save_32 : decode cX12_save 32 = .ok (.aload_n 0, 1) := by decide +kernel
theorem dX12_save_33 : decode cX12_save 33 = .ok (.getfield 7, 3) := by decide +kernel
theorem dX12_save_36 : decode cX12_save 36 = .ok (.iload_n 2, 1) := by decide +kernel
theorem dX12_save_37 : decode cX12_save 37 = .ok (.iaload, 1) := by decide +kernel
theorem dX12_save_38 : decode cX12_save 38 = .ok (.iastore, 1) := by decide +kernel
theorem dX12_save_39 : decode cX12_save 39 = .ok (.iinc 2 1, 3) := by decide +kernel
theorem dX12_save_42 : decode cX12_save 42 = .ok (.goto (-28), 3) := by decide +kernel
theorem dX12_save_45 : decode cX12_save 45 = .ok (.aload_n 0, 1) := by decide +kernel
theorem dX12_save_46 : decode cX12_save 46 = .ok (.getfield 19, 3) := by decide +kernel
theorem dX12_save_49 : decode cX12_save 49 = .ok (.iload_n 1, 1) := by decide +kernel
theorem dX12_save_50 : decode cX12_save 50 = .ok (.iconst 1, 1) := by decide +kernel
theorem dX12_save_51 : decode cX12_save 51 = .ok (.bastore, 1) := by decide +kernel
theorem dX12_save_52 : decode cX12_save 52 = .ok (.aload_n 0, 1) := by decide +kernel
theorem dX12_save_53 : decode cX12_save 53 = .ok (.getfield 7, 3) := by decide +kernel
theorem dX12_save_56 : decode cX12_save 56 = .ok (.iconst 3, 1) := by decide +kernel
theorem dX12_save_57 : decode cX12_save 57 = .ok (.iaload, 1) := by decide +kernel
theorem dX12_save_58 : decode cX12_save 58 = .ok (.ireturn, 1) := by decide +kernel
theorem dX12_restore_0 : decode cX12_restore 0 = .ok (.iload_n 1, 1) := by decide +kernel
theorem dX12_restore_1 : decode cX12_restore 1 = .ok (.iconst 0, 1) := by decide +kernel
theorem dX12_restore_2 : decode cX12_restore 2 = .ok (.iconst 1, 1) := by decide +kernel
theorem dX12_restore_3 : decode cX12_restore 3 = .ok (.invokestatic 41, 3) := by decide +kernel
theorem dX12_restore_6 : decode cX12_restore 6 = .ok (.ifCond .ne 6, 3) := by decide +kernel
theorem dX12_restore_9 : decode cX12_restore 9 = .ok (.bipush (-2), 2) := by decide +kernel
theorem dX12_restore_11 : decode cX12_restore 11 = .ok (.ireturn, 1) := by decide +kernel
theorem dX12_restore_12 : decode cX12_restore 12 = .ok (.aload_n 0, 1) := by decide +kernel
theorem dX12_restore_13 : decode cX12_restore 13 = .ok (.getfield 19, 3) := by decide +kernel
theorem dX12_restore_16 : decode cX12_restore 16 = .ok (.iload_n 1, 1) := by decide +kernel
theorem dX12_restore_17 : decode cX12_restore 17 = .ok (.baload, 1) := by decide +kernel
theorem dX12_restore_18 : decode cX12_restore 18 = .ok (.ifCond .ne 6, 3) := by decide +kernel
theorem dX12_restore_21 : decode cX12_restore 21 = .ok (.bipush (-5), 2) := by decide +kernel
theorem dX12_restore_23 : decode cX12_restore 23 = .ok (.ireturn, 1) := by decide +kernel
theorem dX12_restore_24 : decode cX12_restore 24 = .ok (.aload_n 0, 1) := by decide +kernel
theorem dX12_restore_25 : decode cX12_restore 25 = .ok (.invokevirtual 53, 3) := by decide +kernel
theorem dX12_restore_28 : decode cX12_restore 28 = .ok (.iconst 0, 1) := by decide +kernel
theorem dX12_restore_29 : decode cX12_restore 29 = .ok (.istore_n 2, 1) := by decide +kernel
theorem dX12_restore_30 : decode cX12_restore 30 = .ok (.iload_n 2, 1) := by decide +kernel
theorem dX12_restore_31 : decode cX12_restore 31 = .ok (.sipush 170, 3) := by decide +kernel
theorem dX12_restore_34 : decode cX12_restore 34 = .ok (.if_icmp .ge 27, 3) := by decide +kernel
theorem dX12_restore_37 : decode cX12_restore 37 = .ok (.aload_n 0, 1) := by decide +kernel
theorem dX12_restore_38 : decode cX12_restore 38 = .ok (.getfield 7, 3) := by decide +kernel
theorem dX12_restore_41 : decode cX12_restore 41 = .ok (.iload_n 2, 1) := by decide +kernel
theorem dX12_restore_42 : decode cX12_restore 42 = .ok (.aload_n 0, 1) := by decide +kernel
theorem dX12_restore_43 : decode cX12_restore 43 = .ok (.getfield 16, 3) := by decide +kernel
theorem dX12_restore_46 : decode cX12_restore 46 = .ok (.iload_n 1, 1) := by decide +kernel
theorem dX12_restore_47 : decode cX12_restore 47 = .ok (.sipush 170, 3) := by decide +kernel
theorem dX12_restore_50 : decode cX12_restore 50 = .ok (.imul, 1) := by decide +kernel
theorem dX12_restore_51 : decode cX12_restore 51 = .ok (.iload_n 2, 1) := by decide +kernel
theorem dX12_restore_52 : decode cX12_restore 52 = .ok (.iadd, 1) := by decide +kernel
theorem dX12_restore_53 : decode cX12_restore 53 = .ok (.iaload, 1) := by decide +kernel
theorem dX12_restore_54 : decode cX12_restore 54 = .ok (.iastore, 1) := by decide +kernel
theorem dX12_restore_55 : decode cX12_restore 55 = .ok (.iinc 2 1, 3) := by decide +kernel
theorem dX12_restore_58 : decode cX12_restore 58 = .ok (.goto (-28), 3) := by decide +kernel
theorem dX12_restore_61 : decode cX12_restore 61 = .ok (.aload_n 0, 1) := by decide +kernel
theorem dX12_restore_62 : decode cX12_restore 62 = .ok (.getfield 7, 3) := by decide +kernel
theorem dX12_restore_65 : decode cX12_restore 65 = .ok (.iconst 3, 1) := by decide +kernel
theorem dX12_restore_66 : decode cX12_restore 66 = .ok (.iaload, 1) := by decide +kernel
theorem dX12_restore_67 : decode cX12_restore 67 = .ok (.ireturn, 1) := by decide +kernel
theorem dL_law_0 : decode cL_law 0 = .ok (.new 7, 3) := by decide +kernel
theorem dL_law_3 : decode cL_law 3 = .ok (.dup, 1) := by decide +kernel
theorem dL_law_4 : decode cL_law 4 = .ok (.invokespecial 9, 3) := by decide +kernel
theorem dL_law_7 : decode cL_law 7 = .ok (.astore_n 1, 1) := by decide +kernel
theorem dL_law_8 : decode cL_law 8 = .ok (.new 10, 3) := by decide +kernel
theorem dL_law_11 : decode cL_law 11 = .ok (.dup, 1) := by decide +kernel
theorem dL_law_12 : decode cL_law 12 = .ok (.invokespecial 12, 3) := by decide +kernel
theorem dL_law_15 : decode cL_law 15 = .ok (.astore_n 2, 1) := by decide +kernel
theorem dL_law_16 : decode cL_law 16 = .ok (.iconst 0, 1) := by decide +kernel
theorem dL_law_17 : decode cL_law 17 = .ok (.istore_n 3, 1) := by decide +kernel
theorem dL_law_18 : decode cL_law 18 = .ok (.iload_n 3, 1) := by decide +kernel
theorem dL_law_19 : decode cL_law 19 = .ok (.aload_n 0, 1) := by decide +kernel
theorem dL_law_20 : decode cL_law 20 = .ok (.arraylength, 1) := by decide +kernel
theorem dL_law_21 : decode cL_law 21 = .ok (.iconst 5, 1) := by decide +kernel
theorem dL_law_22 : decode cL_law 22 = .ok (.isub, 1) := by decide +kernel
theorem dL_law_23 : decode cL_law 23 = .ok (.if_icmp .gt 918, 3) := by decide +kernel
theorem dL_law_26 : decode cL_law 26 = .ok (.aload_n 0, 1) := by decide +kernel
theorem dL_law_27 : decode cL_law 27 = .ok (.iload_n 3, 1) := by decide +kernel
theorem dL_law_28 : decode cL_law 28 = .ok (.iaload, 1) := by decide +kernel
theorem dL_law_29 : decode cL_law 29 = .ok (.bipush 31, 2) := by decide +kernel
theorem dL_law_31 : decode cL_law 31 = .ok (.iand, 1) := by decide +kernel
theorem dL_law_32 : decode cL_law 32 = .ok (.tableswitch 903 0 30 #[140, 173, 196, 249, 292, 325, 348, 371, 394, 417, 460, 473, 486, 519, 552, 575, 608, 631, 654, 667, 690, 713, 726, 739, 752, 805, 818, 831, 844, 857, 880], 140) := by decide +kernel
theorem dL_law_172 : decode cL_law 172 = .ok (.aload_n 1, 1) := by decide +kernel
theorem dL_law_173 : decode cL_law 173 = .ok (.aload_n 0, 1) := by decide +kernel
theorem dL_law_174 : decode cL_law 174 = .ok (.iload_n 3, 1) := by decide +kernel
theorem dL_law_175 : decode cL_law 175 = .ok (.iconst 1, 1) := by decide +kernel
theorem dL_law_176 : decode cL_law 176 = .ok (.iadd, 1) := by decide +kernel
theorem dL_law_177 : decode cL_law 177 = .ok (.iaload, 1) := by decide +kernel
theorem dL_law_178 : decode cL_law 178 = .ok (.aload_n 0, 1) := by decide +kernel
theorem dL_law_179 : decode cL_law 179 = .ok (.iload_n 3, 1) := by decide +kernel
theorem dL_law_180 : decode cL_law 180 = .ok (.iconst 2, 1) := by decide +kernel
theorem dL_law_181 : decode cL_law 181 = .ok (.iadd, 1) := by decide +kernel
theorem dL_law_182 : decode cL_law 182 = .ok (.iaload, 1) := by decide +kernel
theorem dL_law_183 : decode cL_law 183 = .ok (.invokevirtual 13, 3) := by decide +kernel
theorem dL_law_186 : decode cL_law 186 = .ok (.aload_n 2, 1) := by decide +kernel
theorem dL_law_187 : decode cL_law 187 = .ok (.aload_n 0, 1) := by decide +kernel
theorem dL_law_188 : decode cL_law 188 = .ok (.iload_n 3, 1) := by decide +kernel
theorem dL_law_189 : decode cL_law 189 = .ok (.iconst 1, 1) := by decide +kernel
theorem dL_law_190 : decode cL_law 190 = .ok (.iadd, 1) := by decide +kernel
theorem dL_law_191 : decode cL_law 191 = .ok (.iaload, 1) := by decide +kernel
theorem dL_law_192 : decode cL_law 192 = .ok (.aload_n 0, 1) := by decide +kernel
theorem dL_law_193 : decode cL_law 193 = .ok (.iload_n 3, 1) := by decide +kernel
theorem dL_law_194 : decode cL_law 194 = .ok (.iconst 2, 1) := by decide +kernel
theorem dL_law_195 : decode cL_law 195 = .ok (.iadd, 1) := by decide +kernel
theorem dL_law_196 : decode cL_law 196 = .ok (.iaload, 1) := by decide +kernel
theorem dL_law_197 : decode cL_law 197 = .ok (.invokevirtual 17, 3) := by decide +kernel
theorem dL_law_200 : decode cL_law 200 = .ok (.if_icmp .eq 735, 3) := by decide +kernel
theorem dL_law_203 : decode cL_law 203 = .ok (.iconst 0, 1) := by decide +kernel
theorem dL_law_204 : decode cL_law 204 = .ok (.ireturn, 1) := by decide +kernel
theorem dL_law_205 : decode cL_law 205 = .ok (.aload_n 1, 1) := by decide +kernel
theorem dL_law_206 : decode cL_law 206 = .ok (.aload_n 0, 1) := by decide +kernel
theorem dL_law_207 : decode cL_law 207 = .ok (.iload_n 3, 1) := by decide +kernel
theorem dL_law_208 : decode cL_law 208 = .ok (.iconst 1, 1) := by decide +kernel
theorem dL_law_209 : decode cL_law 209 = .ok (.iadd, 1) := by decide +kernel
theorem dL_law_210 : decode cL_law 210 = .ok (.iaload, 1) := by decide +kernel
theorem dL_law_211 : decode cL_law 211 = .ok (.invokevirtual 18, 3) := by decide +kernel
theorem dL_law_214 : decode cL_law 214 = .ok (.aload_n 2, 1) := by decide +kernel
theorem dL_law_215 : decode cL_law 215 = .ok (.aload_n 0, 1) := by decide +kernel
theorem dL_law_216 : decode cL_law 216 = .ok (.iload_n 3, 1) := by decide +kernel
theorem dL_law_217 : decode cL_law 217 = .ok (.iconst 1, 1) := by decide +kernel
theorem dL_law_218 : decode cL_law 218 = .ok (.iadd, 1) := by decide +kernel
theorem dL_law_219 : decode cL_law 219 = .ok (.iaload, 1) := by decide +kernel
theorem dL_law_220 : decode cL_law 220 = .ok (.invokevirtual 22, 3) := by decide +kernel
theorem dL_law_223 : decode cL_law 223 = .ok (.if_icmp .eq 712, 3) := by decide +kernel
theorem dL_law_226 : decode cL_law 226 = .ok (.iconst 0, 1) := by decide +kernel
theorem dL_law_227 : decode cL_law 227 = .ok (.ireturn, 1) := by decide +kernel
theorem dL_law_228 : decode cL_law 228 = .ok (.aload_n 1, 1) := by decide +kernel
theorem dL_law_229 : decode cL_law 229 = .ok (.aload_n 0, 1) := by decide +kernel
theorem dL_law_230 : decode cL_law 230 = .ok (.iload_n 3, 1) := by decide +kernel
theorem dL_law_231 : decode cL_law 231 = .ok (.iconst 1, 1) := by decide +kernel
theorem dL_law_232 : decode cL_law 232 = .ok (.iadd, 1) := by decide +kernel
theorem dL_law_233 : decode cL_law 233 = .ok (.iaload, 1) := by decide +kernel
theorem dL_law_234 : decode cL_law 234 = .ok (.aload_n 0, 1) := by decide +kernel
theorem dL_law_235 : decode cL_law 235 = .ok (.iload_n 3, 1) := by decide +kernel
theorem dL_law_236 : decode cL_law 236 = .ok (.iconst 2, 1) := by decide +kernel
theorem dL_law_237 : decode cL_law 237 = .ok (.iadd, 1) := by decide +kernel
theorem dL_law_238 : decode cL_law 238 = .ok (.iaload, 1) := by decide +kernel
theorem dL_law_239 : decode cL_law 239 = .ok (.aload_n 0, 1) := by decide +kernel
theorem dL_law_240 : decode cL_law 240 = .ok (.iload_n 3, 1) := by decide +kernel
theorem dL_law_241 : decode cL_law 241 = .ok (.iconst 3, 1) := by decide +kernel
theorem dL_law_242 : decode cL_law 242 = .ok (.iadd, 1) := by decide +kernel
theorem dL_law_243 : decode cL_law 243 = .ok (.iaload, 1) := by decide +kernel
theorem dL_law_244 : decode cL_law 244 = .ok (.aload_n 0, 1) := by decide +kernel
theorem dL_law_245 : decode cL_law 245 = .ok (.iload_n 3, 1) := by decide +kernel
theorem dL_law_246 : decode cL_law 246 = .ok (.iconst 4, 1) := by decide +kernel
theorem dL_law_247 : decode cL_law 247 = .ok (.iadd, 1) := by decide +kernel
theorem dL_law_248 : decode cL_law 248 = .ok (.iaload, 1) := by decide +kernel
theorem dL_law_249 : decode cL_law 249 = .ok (.invokevirtual 23, 3) := by decide +kernel
theorem dL_law_252 : decode cL_law 252 = .ok (.aload_n 2, 1) := by decide +kernel
theorem dL_law_253 : decode cL_law 253 = .ok (.aload_n 0, 1) := by decide +kernel
theorem dL_law_254 : decode cL_law 254 = .ok (.iload_n 3, 1) := by decide +kernel
theorem dL_law_255 : decode cL_law 255 = .ok (.iconst 1, 1) := by decide +kernel
theorem dL_law_256 : decode cL_law 256 = .ok (.iadd, 1) := by decide +kernel
theorem dL_law_257 : decode cL_law 257 = .ok (.iaload, 1) := by decide +kernel
theorem dL_law_258 : decode cL_law 258 = .ok (.aload_n 0, 1) := by decide +kernel
theorem dL_law_259 : decode cL_law 259 = .ok (.iload_n 3, 1) := by decide +kernel
theorem dL_law_260 : decode cL_law 260 = .ok (.iconst 2, 1) := by decide +kernel
theorem dL_law_261 : decode cL_law 261 = .ok (.iadd, 1) := by decide +kernel
theorem dL_law_262 : decode cL_law 262 = .ok (.iaload, 1) := by decide +kernel
theorem dL_law_263 : decode cL_law 263 = .ok (.aload_n 0, 1) := by decide +kernel
theorem dL_law_264 : decode cL_law 264 = .ok (.iload_n 3, 1) := by decide +kernel
theorem dL_law_265 : decode cL_law 265 = .ok (.iconst 3, 1) := by decide +kernel
theorem dL_law_266 : decode cL_law 266 = .ok (.iadd, 1) := by decide +kernel
theorem dL_law_267 : decode cL_law 267 = .ok (.iaload, 1) := by decide +kernel
theorem dL_law_268 : decode cL_law 268 = .ok (.aload_n 0, 1) := by decide +kernel
theorem dL_law_269 : decode cL_law 269 = .ok (.iload_n 3, 1) := by decide +kernel
theorem dL_law_270 : decode cL_law 270 = .ok (.iconst 4, 1) := by decide +kernel
theorem dL_law_271 : decode cL_law 271 = .ok (.iadd, 1) := by decide +kernel
theorem dL_law_272 : decode cL_law 272 = .ok (.iaload, 1) := by decide +kernel
theorem dL_law_273 : decode cL_law 273 = .ok (.invokevirtual 27, 3) := by decide +kernel
theorem dL_law_276 : decode cL_law 276 = .ok (.if_icmp .eq 659, 3) := by decide +kernel
theorem dL_law_279 : decode cL_law 279 = .ok (.iconst 0, 1) := by decide +kernel
theorem dL_law_280 : decode cL_law 280 = .ok (.ireturn, 1) := by decide +kernel
theorem dL_law_281 : decode cL_law 281 = .ok (.aload_n 1, 1) := by decide +kernel
theorem dL_law_282 : decode cL_law 282 = .ok (.aload_n 0, 1) := by decide +kernel
theorem dL_law_283 : decode cL_law 283 = .ok (.iload_n 3, 1) := by decide +kernel
theorem dL_law_284 : decode cL_law 284 = .ok (.iconst 1, 1) := by decide +kernel
theorem dL_law_285 : decode cL_law 285 = .ok (.iadd, 1) := by decide +kernel
theorem dL_law_286 : decode cL_law 286 = .ok (.iaload, 1) := by decide +kernel
theorem dL_law_287 : decode cL_law 287 = .ok (.aload_n 0, 1) := by decide +kernel
theorem dL_law_288 : decode cL_law 288 = .ok (.iload_n 3, 1) := by decide +kernel
theorem dL_law_289 : decode cL_law 289 = .ok (.iconst 2, 1) := by decide +kernel
theorem dL_law_290 : decode cL_law 290 = .ok (.iadd, 1) := by decide +kernel
theorem dL_law_291 : decode cL_law 291 = .ok (.iaload, 1) := by decide +kernel
theorem dL_law_292 : decode cL_law 292 = .ok (.aload_n 0, 1) := by decide +kernel
theorem dL_law_293 : decode cL_law 293 = .ok (.iload_n 3, 1) := by decide +kernel
theorem dL_law_294 : decode cL_law 294 = .ok (.iconst 3, 1) := by decide +kernel
theorem dL_law_295 : decode cL_law 295 = .ok (.iadd, 1) := by decide +kernel
theorem dL_law_296 : decode cL_law 296 = .ok (.iaload, 1) := by decide +kernel
theorem dL_law_297 : decode cL_law 297 = .ok (.invokevirtual 28, 3) := by decide +kernel
theorem dL_law_300 : decode cL_law 300 = .ok (.aload_n 2, 1) := by decide +kernel
theorem dL_law_301 : decode cL_law 301 = .ok (.aload_n 0, 1) := by decide +kernel
theorem dL_law_302 : decode cL_law 302 = .ok (.iload_n 3, 1) := by decide +kernel
theorem dL_law_303 : decode cL_law 303 = .ok (.iconst 1, 1) := by decide +kernel
theorem dL_law_304 : decode cL_law 304 = .ok (.iadd, 1) := by decide +kernel
theorem dL_law_305 : decode cL_law 305 = .ok (.iaload, 1) := by decide +kernel
theorem dL_law_306 : decode cL_law 306 = .ok (.aload_n 0, 1) := by decide +kernel
theorem dL_law_307 : decode cL_law 307 = .ok (.iload_n 3, 1) := by decide +kernel
theorem dL_law_308 : decode cL_law 308 = .ok (.iconst 2, 1) := by decide +kernel
theorem dL_law_309 : decode cL_law 309 = .ok (.iadd, 1) := by decide +kernel
theorem dL_law_310 : decode cL_law 310 = .ok (.iaload, 1) := by decide +kernel
theorem dL_law_311 : decode cL_law 311 = .ok (.aload_n 0, 1) := by decide +kernel
theorem dL_law_312 : decode cL_law 312 = .ok (.iload_n 3, 1) := by decide +kernel
theorem dL_law_313 : decode cL_law 313 = .ok (.iconst 3, 1) := by decide +kernel
theorem dL_law_314 : decode cL_law 314 = .ok (.iadd, 1) := by decide +kernel
theorem dL_law_315 : decode cL_law 315 = .ok (.iaload, 1) := by decide +kernel
theorem dL_law_316 : decode cL_law 316 = .ok (.invokevirtual 32, 3) := by decide +kernel
theorem dL_law_319 : decode cL_law 319 = .ok (.if_icmp .eq 616, 3) := by decide +kernel
theorem dL_law_322 : decode cL_law 322 = .ok (.iconst 0, 1) := by decide +kernel
theorem dL_law_323 : decode cL_law 323 = .ok (.ireturn, 1) := by decide +kernel
theorem dL_law_324 : decode cL_law 324 = .ok (.aload_n 1, 1) := by decide +kernel
theorem dL_law_325 : decode cL_law 325 = .ok (.aload_n 0, 1) := by decide +kernel
theorem dL_law_326 : decode cL_law 326 = .ok (.iload_n 3, 1) := by decide +kernel
theorem dL_law_327 : decode cL_law 327 = .ok (.iconst 1, 1) := by decide +kernel
theorem dL_law_328 : decode cL_law 328 = .ok (.iadd, 1) := by decide +kernel
theorem dL_law_329 : decode cL_law 329 = .ok (.iaload, 1) := by decide +kernel
theorem dL_law_330 : decode cL_law 330 = .ok (.aload_n 0, 1) := by decide +kernel
theorem dL_law_331 : decode cL_law 331 = .ok (.iload_n 3, 1) := by decide +kernel
theorem dL_law_332 : decode cL_law 332 = .ok (.iconst 2, 1) := by decide +kernel
theorem dL_law_333 : decode cL_law 333 = .ok (.iadd, 1) := by decide +kernel
theorem dL_law_334 : decode cL_law 334 = .ok (.iaload, 1) := by decide +kernel
theorem dL_law_335 : decode cL_law 335 = .ok (.invokevirtual 33, 3) := by decide +kernel
theorem dL_law_338 : decode cL_law 338 = .ok (.aload_n 2, 1) := by decide +kernel
theorem dL_law_339 : decode cL_law 339 = .ok (.aload_n 0, 1) := by decide +kernel
theorem dL_law_340 : decode cL_law 340 = .ok (.iload_n 3, 1) := by decide +kernel
theorem dL_law_341 : decode cL_law 341 = .ok (.iconst 1, 1) := by decide +kernel
theorem dL_law_342 : decode cL_law 342 = .ok (.iadd, 1) := by decide +kernel
theorem dL_law_343 : decode cL_law 343 = .ok (.iaload, 1) := by decide +kernel
theorem dL_law_344 : decode cL_law 344 = .ok (.aload_n 0, 1) := by decide +kernel
theorem dL_law_345 : decode cL_law 345 = .ok (.iload_n 3, 1) := by decide +kernel
theorem dL_law_346 : decode cL_law 346 = .ok (.iconst 2, 1) := by decide +kernel
theorem dL_law_347 : decode cL_law 347 = .ok (.iadd, 1) := by decide +kernel
theorem dL_law_348 : decode cL_law 348 = .ok (.iaload, 1) := by decide +kernel
theorem dL_law_349 : decode cL_law 349 = .ok (.invokevirtual 36, 3) := by decide +kernel
theorem dL_law_352 : decode cL_law 352 = .ok (.if_icmp .eq 583, 3) := by decide +kernel
theorem dL_law_355 : decode cL_law 355 = .ok (.iconst 0, 1) := by decide +kernel
theorem dL_law_356 : decode cL_law 356 = .ok (.ireturn, 1) := by decide +kernel
theorem dL_law_357 : decode cL_law 357 = .ok (.aload_n 1, 1) := by decide +kernel
theorem dL_law_358 : decode cL_law 358 = .ok (.aload_n 0, 1) := by decide +kernel
theorem dL_law_359 : decode cL_law 359 = .ok (.iload_n 3, 1) := by decide +kernel
theorem dL_law_360 : decode cL_law 360 = .ok (.iconst 1, 1) := by decide +kernel
theorem dL_law_361 : decode cL_law 361 = .ok (.iadd, 1) := by decide +kernel
theorem dL_law_362 : decode cL_law 362 = .ok (.iaload, 1) := by decide +kernel
theorem dL_law_363 : decode cL_law 363 = .ok (.invokevirtual 37, 3) := by decide +kernel
theorem dL_law_366 : decode cL_law 366 = .ok (.aload_n 2, 1) := by decide +kernel
theorem dL_law_367 : decode cL_law 367 = .ok (.aload_n 0, 1) := by decide +kernel
theorem dL_law_368 : decode cL_law 368 = .ok (.iload_n 3, 1) := by decide +kernel
theorem dL_law_369 : decode cL_law 369 = .ok (.iconst 1, 1) := by decide +kernel
theorem dL_law_370 : decode cL_law 370 = .ok (.iadd, 1) := by decide +kernel
theorem dL_law_371 : decode cL_law 371 = .ok (.iaload, 1) := by decide +kernel
theorem dL_law_372 : decode cL_law 372 = .ok (.invokevirtual 40, 3) := by decide +kernel
theorem dL_law_375 : decode cL_law 375 = .ok (.if_icmp .eq 560, 3) := by decide +kernel
theorem dL_law_378 : decode cL_law 378 = .ok (.iconst 0, 1) := by decide +kernel
theorem dL_law_379 : decode cL_law 379 = .ok (.ireturn, 1) := by decide +kernel
theorem dL_law_380 : decode cL_law 380 = .ok (.aload_n 1, 1) := by decide +kernel
theorem dL_law_381 : decode cL_law 381 = .ok (.aload_n 0, 1) := by decide +kernel
theorem dL_law_382 : decode cL_law 382 = .ok (.iload_n 3, 1) := by decide +kernel
theorem dL_law_383 : decode cL_law 383 = .ok (.iconst 1, 1) := by decide +kernel
theorem dL_law_384 : decode cL_law 384 = .ok (.iadd, 1) := by decide +kernel
theorem dL_law_385 : decode cL_law 385 = .ok (.iaload, 1) := by decide +kernel
theorem dL_law_386 : decode cL_law 386 = .ok (.invokevirtual 41, 3) := by decide +kernel
theorem dL_law_389 : decode cL_law 389 = .ok (.aload_n 2, 1) := by decide +kernel
theorem dL_law_390 : decode cL_law 390 = .ok (.aload_n 0, 1) := by decide +kernel
theorem dL_law_391 : decode cL_law 391 = .ok (.iload_n 3, 1) := by decide +kernel
theorem dL_law_392 : decode cL_law 392 = .ok (.iconst 1, 1) := by decide +kernel
theorem dL_law_393 : decode cL_law 393 = .ok (.iadd, 1) := by decide +kernel
theorem dL_law_394 : decode cL_law 394 = .ok (.iaload, 1) := by decide +kernel
theorem dL_law_395 : decode cL_law 395 = .ok (.invokevirtual 44, 3) := by decide +kernel
theorem dL_law_398 : decode cL_law 398 = .ok (.if_icmp .eq 537, 3) := by decide +kernel
theorem dL_law_401 : decode cL_law 401 = .ok (.iconst 0, 1) := by decide +kernel
theorem dL_law_402 : decode cL_law 402 = .ok (.ireturn, 1) := by decide +kernel
theorem dL_law_403 : decode cL_law 403 = .ok (.aload_n 1, 1) := by decide +kernel
theorem dL_law_404 : decode cL_law 404 = .ok (.aload_n 0, 1) := by decide +kernel
theorem dL_law_405 : decode cL_law 405 = .ok (.iload_n 3, 1) := by decide +kernel
theorem dL_law_406 : decode cL_law 406 = .ok (.iconst 1, 1) := by decide +kernel
theorem dL_law_407 : decode cL_law 407 = .ok (.iadd, 1) := by decide +kernel
theorem dL_law_408 : decode cL_law 408 = .ok (.iaload, 1) := by decide +kernel
theorem dL_law_409 : decode cL_law 409 = .ok (.invokevirtual 45, 3) := by decide +kernel
theorem dL_law_412 : decode cL_law 412 = .ok (.aload_n 2, 1) := by decide +kernel
theorem dL_law_413 : decode cL_law 413 = .ok (.aload_n 0, 1) := by decide +kernel
theorem dL_law_414 : decode cL_law 414 = .ok (.iload_n 3, 1) := by decide +kernel
theorem dL_law_415 : decode cL_law 415 = .ok (.iconst 1, 1) := by decide +kernel
theorem dL_law_416 : decode cL_law 416 = .ok (.iadd, 1) := by decide +kernel
theorem dL_law_417 : decode cL_law 417 = .ok (.iaload, 1) := by decide +kernel
theorem dL_law_418 : decode cL_law 418 = .ok (.invokevirtual 48, 3) := by decide +kernel
theorem dL_law_421 : decode cL_law 421 = .ok (.if_icmp .eq 514, 3) := by decide +kernel
theorem dL_law_424 : decode cL_law 424 = .ok (.iconst 0, 1) := by decide +kernel
theorem dL_law_425 : decode cL_law 425 = .ok (.ireturn, 1) := by decide +kernel
theorem dL_law_426 : decode cL_law 426 = .ok (.aload_n 1, 1) := by decide +kernel
theorem dL_law_427 : decode cL_law 427 = .ok (.aload_n 0, 1) := by decide +kernel
theorem dL_law_428 : decode cL_law 428 = .ok (.iload_n 3, 1) := by decide +kernel
theorem dL_law_429 : decode cL_law 429 = .ok (.iconst 1, 1) := by decide +kernel
theorem dL_law_430 : decode cL_law 430 = .ok (.iadd, 1) := by decide +kernel
theorem dL_law_431 : decode cL_law 431 = .ok (.iaload, 1) := by decide +kernel
theorem dL_law_432 : decode cL_law 432 = .ok (.invokevirtual 49, 3) := by decide +kernel
theorem dL_law_435 : decode cL_law 435 = .ok (.aload_n 2, 1) := by decide +kernel
theorem dL_law_436 : decode cL_law 436 = .ok (.aload_n 0, 1) := by decide +kernel
theorem dL_law_437 : decode cL_law 437 = .ok (.iload_n 3, 1) := by decide +kernel
theorem dL_law_438 : decode cL_law 438 = .ok (.iconst 1, 1) := by decide +kernel
theorem dL_law_439 : decode cL_law 439 = .ok (.iadd, 1) := by decide +kernel
theorem dL_law_440 : decode cL_law 440 = .ok (.iaload, 1) := by decide +kernel
theorem dL_law_441 : decode cL_law 441 = .ok (.invokevirtual 52, 3) := by decide +kernel
theorem dL_law_444 : decode cL_law 444 = .ok (.if_icmp .eq 491, 3) := by decide +kernel
theorem dL_law_447 : decode cL_law 447 = .ok (.iconst 0, 1) := by decide +kernel
theorem dL_law_448 : decode cL_law 448 = .ok (.ireturn, 1) := by decide +kernel
theorem dL_law_449 : decode cL_law 449 = .ok (.aload_n 1, 1) := by decide +kernel
theorem dL_law_450 : decode cL_law 450 = .ok (.aload_n 0, 1) := by decide +kernel
theorem dL_law_451 : decode cL_law 451 = .ok (.iload_n 3, 1) := by decide +kernel
theorem dL_law_452 : decode cL_law 452 = .ok (.iconst 1, 1) := by decide +kernel
theorem dL_law_453 : decode cL_law 453 = .ok (.iadd, 1) := by decide +kernel
theorem dL_law_454 : decode cL_law 454 = .ok (.iaload, 1) := by decide +kernel
theorem dL_law_455 : decode cL_law 455 = .ok (.aload_n 0, 1) := by decide +kernel
theorem dL_law_456 : decode cL_law 456 = .ok (.iload_n 3, 1) := by decide +kernel
theorem dL_law_457 : decode cL_law 457 = .ok (.iconst 2, 1) := by decide +kernel
theorem dL_law_458 : decode cL_law 458 = .ok (.iadd, 1) := by decide +kernel
theorem dL_law_459 : decode cL_law 459 = .ok (.iaload, 1) := by decide +kernel
theorem dL_law_460 : decode cL_law 460 = .ok (.aload_n 0, 1) := by decide +kernel
theorem dL_law_461 : decode cL_law 461 = .ok (.iload_n 3, 1) := by decide +kernel
theorem dL_law_462 : decode cL_law 462 = .ok (.iconst 3, 1) := by decide +kernel
theorem dL_law_463 : decode cL_law 463 = .ok (.iadd, 1) := by decide +kernel
theorem dL_law_464 : decode cL_law 464 = .ok (.iaload, 1) := by decide +kernel
theorem dL_law_465 : decode cL_law 465 = .ok (.invokevirtual 53, 3) := by decide +kernel
theorem dL_law_468 : decode cL_law 468 = .ok (.aload_n 2, 1) := by decide +kernel
theorem dL_law_469 : decode cL_law 469 = .ok (.aload_n 0, 1) := by decide +kernel
theorem dL_law_470 : decode cL_law 470 = .ok (.iload_n 3, 1) := by decide +kernel
theorem dL_law_471 : decode cL_law 471 = .ok (.iconst 1, 1) := by decide +kernel
theorem dL_law_472 : decode cL_law 472 = .ok (.iadd, 1) := by decide +kernel
theorem dL_law_473 : decode cL_law 473 = .ok (.iaload, 1) := by decide +kernel
theorem dL_law_474 : decode cL_law 474 = .ok (.aload_n 0, 1) := by decide +kernel
theorem dL_law_475 : decode cL_law 475 = .ok (.iload_n 3, 1) := by decide +kernel
theorem dL_law_476 : decode cL_law 476 = .ok (.iconst 2, 1) := by decide +kernel
theorem dL_law_477 : decode cL_law 477 = .ok (.iadd, 1) := by decide +kernel
theorem dL_law_478 : decode cL_law 478 = .ok (.iaload, 1) := by decide +kernel
theorem dL_law_479 : decode cL_law 479 = .ok (.aload_n 0, 1) := by decide +kernel
theorem dL_law_480 : decode cL_law 480 = .ok (.iload_n 3, 1) := by decide +kernel
theorem dL_law_481 : decode cL_law 481 = .ok (.iconst 3, 1) := by decide +kernel
theorem dL_law_482 : decode cL_law 482 = .ok (.iadd, 1) := by decide +kernel
theorem dL_law_483 : decode cL_law 483 = .ok (.iaload, 1) := by decide +kernel
theorem dL_law_484 : decode cL_law 484 = .ok (.invokevirtual 56, 3) := by decide +kernel
theorem dL_law_487 : decode cL_law 487 = .ok (.if_icmp .eq 448, 3) := by decide +kernel
theorem dL_law_490 : decode cL_law 490 = .ok (.iconst 0, 1) := by decide +kernel
theorem dL_law_491 : decode cL_law 491 = .ok (.ireturn, 1) := by decide +kernel
theorem dL_law_492 : decode cL_law 492 = .ok (.aload_n 1, 1) := by decide +kernel
theorem dL_law_493 : decode cL_law 493 = .ok (.invokevirtual 57, 3) := by decide +kernel
theorem dL_law_496 : decode cL_law 496 = .ok (.aload_n 2, 1) := by decide +kernel
theorem dL_law_497 : decode cL_law 497 = .ok (.invokevirtual 61, 3) := by decide +kernel
theorem dL_law_500 : decode cL_law 500 = .ok (.if_icmp .eq 435, 3) := by decide +kernel
theorem dL_law_503 : decode cL_law 503 = .ok (.iconst 0, 1) := by decide +kernel
theorem dL_law_504 : decode cL_law 504 = .ok (.ireturn, 1) := by decide +kernel
theorem dL_law_505 : decode cL_law 505 = .ok (.aload_n 1, 1) := by decide +kernel
theorem dL_law_506 : decode cL_law 506 = .ok (.invokevirtual 62, 3) := by decide +kernel
theorem dL_law_509 : decode cL_law 509 = .ok (.aload_n 2, 1) := by decide +kernel
theorem dL_law_510 : decode cL_law 510 = .ok (.invokevirtual 65, 3) := by decide +kernel
theorem dL_law_513 : decode cL_law 513 = .ok (.if_icmp .eq 422, 3) := by decide +kernel
theorem dL_law_516 : decode cL_law 516 = .ok (.iconst 0, 1) := by decide +kernel
theorem dL_law_517 : decode cL_law 517 = .ok (.ireturn, 1) := by decide +kernel
theorem dL_law_518 : decode cL_law 518 = .ok (.aload_n 1, 1) := by decide +kernel
theorem dL_law_519 : decode cL_law 519 = .ok (.aload_n 0, 1) := by decide +kernel
theorem dL_law_520 : decode cL_law 520 = .ok (.iload_n 3, 1) := by decide +kernel
theorem dL_law_521 : decode cL_law 521 = .ok (.iconst 1, 1) := by decide +kernel
theorem dL_law_522 : decode cL_law 522 = .ok (.iadd, 1) := by decide +kernel
theorem dL_law_523 : decode cL_law 523 = .ok (.iaload, 1) := by decide +kernel
theorem dL_law_524 : decode cL_law 524 = .ok (.aload_n 0, 1) := by decide +kernel
theorem dL_law_525 : decode cL_law 525 = .ok (.iload_n 3, 1) := by decide +kernel
theorem dL_law_526 : decode cL_law 526 = .ok (.iconst 2, 1) := by decide +kernel
theorem dL_law_527 : decode cL_law 527 = .ok (.iadd, 1) := by decide +kernel
theorem dL_law_528 : decode cL_law 528 = .ok (.iaload, 1) := by decide +kernel
theorem dL_law_529 : decode cL_law 529 = .ok (.invokevirtual 66, 3) := by decide +kernel
theorem dL_law_532 : decode cL_law 532 = .ok (.aload_n 2, 1) := by decide +kernel
theorem dL_law_533 : decode cL_law 533 = .ok (.aload_n 0, 1) := by decide +kernel
theorem dL_law_534 : decode cL_law 534 = .ok (.iload_n 3, 1) := by decide +kernel
theorem dL_law_535 : decode cL_law 535 = .ok (.iconst 1, 1) := by decide +kernel
theorem dL_law_536 : decode cL_law 536 = .ok (.iadd, 1) := by decide +kernel
theorem dL_law_537 : decode cL_law 537 = .ok (.iaload, 1) := by decide +kernel
theorem dL_law_538 : decode cL_law 538 = .ok (.aload_n 0, 1) := by decide +kernel
theorem dL_law_539 : decode cL_law 539 = .ok (.iload_n 3, 1) := by decide +kernel
theorem dL_law_540 : decode cL_law 540 = .ok (.iconst 2, 1) := by decide +kernel
theorem dL_law_541 : decode cL_law 541 = .ok (.iadd, 1) := by decide +kernel
theorem dL_law_542 : decode cL_law 542 = .ok (.iaload, 1) := by decide +kernel
theorem dL_law_543 : decode cL_law 543 = .ok (.invokevirtual 69, 3) := by decide +kernel
theorem dL_law_546 : decode cL_law 546 = .ok (.if_icmp .eq 389, 3) := by decide +kernel
theorem dL_law_549 : decode cL_law 549 = .ok (.iconst 0, 1) := by decide +kernel
theorem dL_law_550 : decode cL_law 550 = .ok (.ireturn, 1) := by decide +kernel
theorem dL_law_551 : decode cL_law 551 = .ok (.aload_n 1, 1) := by decide +kernel
theorem dL_law_552 : decode cL_law 552 = .ok (.aload_n 0, 1) := by decide +kernel
theorem dL_law_553 : decode cL_law 553 = .ok (.iload_n 3, 1) := by decide +kernel
theorem dL_law_554 : decode cL_law 554 = .ok (.iconst 1, 1) := by decide +kernel
theorem dL_law_555 : decode cL_law 555 = .ok (.iadd, 1) := by decide +kernel
theorem dL_law_556 : decode cL_law 556 = .ok (.iaload, 1) := by decide +kernel
theorem dL_law_557 : decode cL_law 557 = .ok (.aload_n 0, 1) := by decide +kernel
theorem dL_law_558 : decode cL_law 558 = .ok (.iload_n 3, 1) := by decide +kernel
theorem dL_law_559 : decode cL_law 559 = .ok (.iconst 2, 1) := by decide +kernel
theorem dL_law_560 : decode cL_law 560 = .ok (.iadd, 1) := by decide +kernel
theorem dL_law_561 : decode cL_law 561 = .ok (.iaload, 1) := by decide +kernel
theorem dL_law_562 : decode cL_law 562 = .ok (.invokevirtual 70, 3) := by decide +kernel
theorem dL_law_565 : decode cL_law 565 = .ok (.aload_n 2, 1) := by decide +kernel
theorem dL_law_566 : decode cL_law 566 = .ok (.aload_n 0, 1) := by decide +kernel
theorem dL_law_567 : decode cL_law 567 = .ok (.iload_n 3, 1) := by decide +kernel
theorem dL_law_568 : decode cL_law 568 = .ok (.iconst 1, 1) := by decide +kernel
theorem dL_law_569 : decode cL_law 569 = .ok (.iadd, 1) := by decide +kernel
theorem dL_law_570 : decode cL_law 570 = .ok (.iaload, 1) := by decide +kernel
theorem dL_law_571 : decode cL_law 571 = .ok (.aload_n 0, 1) := by decide +kernel
theorem dL_law_572 : decode cL_law 572 = .ok (.iload_n 3, 1) := by decide +kernel
theorem dL_law_573 : decode cL_law 573 = .ok (.iconst 2, 1) := by decide +kernel
theorem dL_law_574 : decode cL_law 574 = .ok (.iadd, 1) := by decide +kernel
theorem dL_law_575 : decode cL_law 575 = .ok (.iaload, 1) := by decide +kernel
theorem dL_law_576 : decode cL_law 576 = .ok (.invokevirtual 73, 3) := by decide +kernel
theorem dL_law_579 : decode cL_law 579 = .ok (.if_icmp .eq 356, 3) := by decide +kernel
theorem dL_law_582 : decode cL_law 582 = .ok (.iconst 0, 1) := by decide +kernel
theorem dL_law_583 : decode cL_law 583 = .ok (.ireturn, 1) := by decide +kernel
theorem dL_law_584 : decode cL_law 584 = .ok (.aload_n 1, 1) := by decide +kernel
theorem dL_law_585 : decode cL_law 585 = .ok (.aload_n 0, 1) := by decide +kernel
theorem dL_law_586 : decode cL_law 586 = .ok (.iload_n 3, 1) := by decide +kernel
theorem dL_law_587 : decode cL_law 587 = .ok (.iconst 1, 1) := by decide +kernel
theorem dL_law_588 : decode cL_law 588 = .ok (.iadd, 1) := by decide +kernel
theorem dL_law_589 : decode cL_law 589 = .ok (.iaload, 1) := by decide +kernel
theorem dL_law_590 : decode cL_law 590 = .ok (.invokevirtual 74, 3) := by decide +kernel
theorem dL_law_593 : decode cL_law 593 = .ok (.aload_n 2, 1) := by decide +kernel
theorem dL_law_594 : decode cL_law 594 = .ok (.aload_n 0, 1) := by decide +kernel
theorem dL_law_595 : decode cL_law 595 = .ok (.iload_n 3, 1) := by decide +kernel
theorem dL_law_596 : decode cL_law 596 = .ok (.iconst 1, 1) := by decide +kernel
theorem dL_law_597 : decode cL_law 597 = .ok (.iadd, 1) := by decide +kernel
theorem dL_law_598 : decode cL_law 598 = .ok (.iaload, 1) := by decide +kernel
theorem dL_law_599 : decode cL_law 599 = .ok (.invokevirtual 77, 3) := by decide +kernel
theorem dL_law_602 : decode cL_law 602 = .ok (.if_icmp .eq 333, 3) := by decide +kernel
theorem dL_law_605 : decode cL_law 605 = .ok (.iconst 0, 1) := by decide +kernel
theorem dL_law_606 : decode cL_law 606 = .ok (.ireturn, 1) := by decide +kernel
theorem dL_law_607 : decode cL_law 607 = .ok (.aload_n 1, 1) := by decide +kernel
theorem dL_law_608 : decode cL_law 608 = .ok (.aload_n 0, 1) := by decide +kernel
theorem dL_law_609 : decode cL_law 609 = .ok (.iload_n 3, 1) := by decide +kernel
theorem dL_law_610 : decode cL_law 610 = .ok (.iconst 1, 1) := by decide +kernel
theorem dL_law_611 : decode cL_law 611 = .ok (.iadd, 1) := by decide +kernel
theorem dL_law_612 : decode cL_law 612 = .ok (.iaload, 1) := by decide +kernel
theorem dL_law_613 : decode cL_law 613 = .ok (.aload_n 0, 1) := by decide +kernel
theorem dL_law_614 : decode cL_law 614 = .ok (.iload_n 3, 1) := by decide +kernel
theorem dL_law_615 : decode cL_law 615 = .ok (.iconst 2, 1) := by decide +kernel
theorem dL_law_616 : decode cL_law 616 = .ok (.iadd, 1) := by decide +kernel
theorem dL_law_617 : decode cL_law 617 = .ok (.iaload, 1) := by decide +kernel
theorem dL_law_618 : decode cL_law 618 = .ok (.invokevirtual 78, 3) := by decide +kernel
theorem dL_law_621 : decode cL_law 621 = .ok (.aload_n 2, 1) := by decide +kernel
theorem dL_law_622 : decode cL_law 622 = .ok (.aload_n 0, 1) := by decide +kernel
theorem dL_law_623 : decode cL_law 623 = .ok (.iload_n 3, 1) := by decide +kernel
theorem dL_law_624 : decode cL_law 624 = .ok (.iconst 1, 1) := by decide +kernel
theorem dL_law_625 : decode cL_law 625 = .ok (.iadd, 1) := by decide +kernel
theorem dL_law_626 : decode cL_law 626 = .ok (.iaload, 1) := by decide +kernel
theorem dL_law_627 : decode cL_law 627 = .ok (.aload_n 0, 1) := by decide +kernel
theorem dL_law_628 : decode cL_law 628 = .ok (.iload_n 3, 1) := by decide +kernel
theorem dL_law_629 : decode cL_law 629 = .ok (.iconst 2, 1) := by decide +kernel
theorem dL_law_630 : decode cL_law 630 = .ok (.iadd, 1) := by decide +kernel
theorem dL_law_631 : decode cL_law 631 = .ok (.iaload, 1) := by decide +kernel
theorem dL_law_632 : decode cL_law 632 = .ok (.invokevirtual 81, 3) := by decide +kernel
theorem dL_law_635 : decode cL_law 635 = .ok (.if_icmp .eq 300, 3) := by decide +kernel
theorem dL_law_638 : decode cL_law 638 = .ok (.iconst 0, 1) := by decide +kernel
theorem dL_law_639 : decode cL_law 639 = .ok (.ireturn, 1) := by decide +kernel
theorem dL_law_640 : decode cL_law 640 = .ok (.aload_n 1, 1) := by decide +kernel
theorem dL_law_641 : decode cL_law 641 = .ok (.aload_n 0, 1) := by decide +kernel
theorem dL_law_642 : decode cL_law 642 = .ok (.iload_n 3, 1) := by decide +kernel
theorem dL_law_643 : decode cL_law 643 = .ok (.iconst 1, 1) := by decide +kernel
theorem dL_law_644 : decode cL_law 644 = .ok (.iadd, 1) := by decide +kernel
theorem dL_law_645 : decode cL_law 645 = .ok (.iaload, 1) := by decide +kernel
theorem dL_law_646 : decode cL_law 646 = .ok (.invokevirtual 82, 3) := by decide +kernel
theorem dL_law_649 : decode cL_law 649 = .ok (.aload_n 2, 1) := by decide +kernel
theorem dL_law_650 : decode cL_law 650 = .ok (.aload_n 0, 1) := by decide +kernel
theorem dL_law_651 : decode cL_law 651 = .ok (.iload_n 3, 1) := by decide +kernel
theorem dL_law_652 : decode cL_law 652 = .ok (.iconst 1, 1) := by decide +kernel
theorem dL_law_653 : decode cL_law 653 = .ok (.iadd, 1) := by decide +kernel
theorem dL_law_654 : decode cL_law 654 = .ok (.iaload, 1) := by decide +kernel
theorem dL_law_655 : decode cL_law 655 = .ok (.invokevirtual 85, 3) := by decide +kernel
theorem dL_law_658 : decode cL_law 658 = .ok (.if_icmp .eq 277, 3) := by decide +kernel
theorem dL_law_661 : decode cL_law 661 = .ok (.iconst 0, 1) := by decide +kernel
theorem dL_law_662 : decode cL_law 662 = .ok (.ireturn, 1) := by decide +kernel
theorem dL_law_663 : decode cL_law 663 = .ok (.aload_n 1, 1) := by decide +kernel
theorem dL_law_664 : decode cL_law 664 = .ok (.aload_n 0, 1) := by decide +kernel
theorem dL_law_665 : decode cL_law 665 = .ok (.iload_n 3, 1) := by decide +kernel
theorem dL_law_666 : decode cL_law 666 = .ok (.iconst 1, 1) := by decide +kernel
theorem dL_law_667 : decode cL_law 667 = .ok (.iadd, 1) := by decide +kernel
theorem dL_law_668 : decode cL_law 668 = .ok (.iaload, 1) := by decide +kernel
theorem dL_law_669 : decode cL_law 669 = .ok (.invokevirtual 86, 3) := by decide +kernel
theorem dL_law_672 : decode cL_law 672 = .ok (.aload_n 2, 1) := by decide +kernel
theorem dL_law_673 : decode cL_law 673 = .ok (.aload_n 0, 1) := by decide +kernel
theorem dL_law_674 : decode cL_law 674 = .ok (.iload_n 3, 1) := by decide +kernel
theorem dL_law_675 : decode cL_law 675 = .ok (.iconst 1, 1) := by decide +kernel
theorem dL_law_676 : decode cL_law 676 = .ok (.iadd, 1) := by decide +kernel
theorem dL_law_677 : decode cL_law 677 = .ok (.iaload, 1) := by decide +kernel
theorem dL_law_678 : decode cL_law 678 = .ok (.invokevirtual 89, 3) := by decide +kernel
theorem dL_law_681 : decode cL_law 681 = .ok (.if_icmp .eq 254, 3) := by decide +kernel
theorem dL_law_684 : decode cL_law 684 = .ok (.iconst 0, 1) := by decide +kernel
theorem dL_law_685 : decode cL_law 685 = .ok (.ireturn, 1) := by decide +kernel
theorem dL_law_686 : decode cL_law 686 = .ok (.aload_n 1, 1) := by decide +kernel
theorem dL_law_687 : decode cL_law 687 = .ok (.invokevirtual 90, 3) := by decide +kernel
theorem dL_law_690 : decode cL_law 690 = .ok (.aload_n 2, 1) := by decide +kernel
theorem dL_law_691 : decode cL_law 691 = .ok (.invokevirtual 93, 3) := by decide +kernel
theorem dL_law_694 : decode cL_law 694 = .ok (.if_icmp .eq 241, 3) := by decide +kernel
theorem dL_law_697 : decode cL_law 697 = .ok (.iconst 0, 1) := by decide +kernel
theorem dL_law_698 : decode cL_law 698 = .ok (.ireturn, 1) := by decide +kernel
theorem dL_law_699 : decode cL_law 699 = .ok (.aload_n 1, 1) := by decide +kernel
theorem dL_law_700 : decode cL_law 700 = .ok (.aload_n 0, 1) := by decide +kernel
theorem dL_law_701 : decode cL_law 701 = .ok (.iload_n 3, 1) := by decide +kernel
theorem dL_law_702 : decode cL_law 702 = .ok (.iconst 1, 1) := by decide +kernel
theorem dL_law_703 : decode cL_law 703 = .ok (.iadd, 1) := by decide +kernel
theorem dL_law_704 : decode cL_law 704 = .ok (.iaload, 1) := by decide +kernel
theorem dL_law_705 : decode cL_law 705 = .ok (.invokevirtual 94, 3) := by decide +kernel
theorem dL_law_708 : decode cL_law 708 = .ok (.aload_n 2, 1) := by decide +kernel
theorem dL_law_709 : decode cL_law 709 = .ok (.aload_n 0, 1) := by decide +kernel
theorem dL_law_710 : decode cL_law 710 = .ok (.iload_n 3, 1) := by decide +kernel
theorem dL_law_711 : decode cL_law 711 = .ok (.iconst 1, 1) := by decide +kernel
theorem dL_law_712 : decode cL_law 712 = .ok (.iadd, 1) := by decide +kernel
theorem dL_law_713 : decode cL_law 713 = .ok (.iaload, 1) := by decide +kernel
theorem dL_law_714 : decode cL_law 714 = .ok (.invokevirtual 97, 3) := by decide +kernel
theorem dL_law_717 : decode cL_law 717 = .ok (.if_icmp .eq 218, 3) := by decide +kernel
theorem dL_law_720 : decode cL_law 720 = .ok (.iconst 0, 1) := by decide +kernel
theorem dL_law_721 : decode cL_law 721 = .ok (.ireturn, 1) := by decide +kernel
theorem dL_law_722 : decode cL_law 722 = .ok (.aload_n 1, 1) := by decide +kernel
theorem dL_law_723 : decode cL_law 723 = .ok (.aload_n 0, 1) := by decide +kernel
theorem dL_law_724 : decode cL_law 724 = .ok (.iload_n 3, 1) := by decide +kernel
theorem dL_law_725 : decode cL_law 725 = .ok (.iconst 1, 1) := by decide +kernel
theorem dL_law_726 : decode cL_law 726 = .ok (.iadd, 1) := by decide +kernel
theorem dL_law_727 : decode cL_law 727 = .ok (.iaload, 1) := by decide +kernel
theorem dL_law_728 : decode cL_law 728 = .ok (.invokevirtual 98, 3) := by decide +kernel
theorem dL_law_731 : decode cL_law 731 = .ok (.aload_n 2, 1) := by decide +kernel
theorem dL_law_732 : decode cL_law 732 = .ok (.aload_n 0, 1) := by decide +kernel
theorem dL_law_733 : decode cL_law 733 = .ok (.iload_n 3, 1) := by decide +kernel
theorem dL_law_734 : decode cL_law 734 = .ok (.iconst 1, 1) := by decide +kernel
theorem dL_law_735 : decode cL_law 735 = .ok (.iadd, 1) := by decide +kernel
theorem dL_law_736 : decode cL_law 736 = .ok (.iaload, 1) := by decide +kernel
theorem dL_law_737 : decode cL_law 737 = .ok (.invokevirtual 101, 3) := by decide +kernel
theorem dL_law_740 : decode cL_law 740 = .ok (.if_icmp .eq 195, 3) := by decide +kernel
theorem dL_law_743 : decode cL_law 743 = .ok (.iconst 0, 1) := by decide +kernel
theorem dL_law_744 : decode cL_law 744 = .ok (.ireturn, 1) := by decide +kernel
theorem dL_law_745 : decode cL_law 745 = .ok (.aload_n 1, 1) := by decide +kernel
theorem dL_law_746 : decode cL_law 746 = .ok (.invokevirtual 102, 3) := by decide +kernel
theorem dL_law_749 : decode cL_law 749 = .ok (.aload_n 2, 1) := by decide +kernel
theorem dL_law_750 : decode cL_law 750 = .ok (.invokevirtual 105, 3) := by decide +kernel
theorem dL_law_753 : decode cL_law 753 = .ok (.if_icmp .eq 182, 3) := by decide +kernel
theorem dL_law_756 : decode cL_law 756 = .ok (.iconst 0, 1) := by decide +kernel
theorem dL_law_757 : decode cL_law 757 = .ok (.ireturn, 1) := by decide +kernel
theorem dL_law_758 : decode cL_law 758 = .ok (.aload_n 1, 1) := by decide +kernel
theorem dL_law_759 : decode cL_law 759 = .ok (.invokevirtual 106, 3) := by decide +kernel
theorem dL_law_762 : decode cL_law 762 = .ok (.aload_n 2, 1) := by decide +kernel
theorem dL_law_763 : decode cL_law 763 = .ok (.invokevirtual 109, 3) := by decide +kernel
theorem dL_law_766 : decode cL_law 766 = .ok (.if_icmp .eq 169, 3) := by decide +kernel
theorem dL_law_769 : decode cL_law 769 = .ok (.iconst 0, 1) := by decide +kernel
theorem dL_law_770 : decode cL_law 770 = .ok (.ireturn, 1) := by decide +kernel
theorem dL_law_771 : decode cL_law 771 = .ok (.aload_n 1, 1) := by decide +kernel
theorem dL_law_772 : decode cL_law 772 = .ok (.invokevirtual 110, 3) := by decide +kernel
theorem dL_law_775 : decode cL_law 775 = .ok (.aload_n 2, 1) := by decide +kernel
theorem dL_law_776 : decode cL_law 776 = .ok (.invokevirtual 113, 3) := by decide +kernel
theorem dL_law_779 : decode cL_law 779 = .ok (.if_icmp .eq 156, 3) := by decide +kernel
theorem dL_law_782 : decode cL_law 782 = .ok (.iconst 0, 1) := by decide +kernel
theorem dL_law_783 : decode cL_law 783 = .ok (.ireturn, 1) := by decide +kernel
theorem dL_law_784 : decode cL_law 784 = .ok (.aload_n 1, 1) := by decide +kernel
theorem dL_law_785 : decode cL_law 785 = .ok (.aload_n 0, 1) := by decide +kernel
theorem dL_law_786 : decode cL_law 786 = .ok (.iload_n 3, 1) := by decide +kernel
theorem dL_law_787 : decode cL_law 787 = .ok (.iconst 1, 1) := by decide +kernel
theorem dL_law_788 : decode cL_law 788 = .ok (.iadd, 1) := by decide +kernel
theorem dL_law_789 : decode cL_law 789 = .ok (.iaload, 1) := by decide +kernel
theorem dL_law_790 : decode cL_law 790 = .ok (.i2l, 1) := by decide +kernel
theorem dL_law_791 : decode cL_law 791 = .ok (.bipush 32, 2) := by decide +kernel
theorem dL_law_793 : decode cL_law 793 = .ok (.lshl, 1) := by decide +kernel
theorem dL_law_794 : decode cL_law 794 = .ok (.aload_n 0, 1) := by decide +kernel
theorem dL_law_795 : decode cL_law 795 = .ok (.iload_n 3, 1) := by decide +kernel
theorem dL_law_796 : decode cL_law 796 = .ok (.iconst 2, 1) := by decide +kernel
theorem dL_law_797 : decode cL_law 797 = .ok (.iadd, 1) := by decide +kernel
theorem dL_law_798 : decode cL_law 798 = .ok (.iaload, 1) := by decide +kernel
theorem dL_law_799 : decode cL_law 799 = .ok (.i2l, 1) := by decide +kernel
theorem dL_law_800 : decode cL_law 800 = .ok (.ldc2_w 114, 3) := by decide +kernel
theorem dL_law_803 : decode cL_law 803 = .ok (.land, 1) := by decide +kernel
theorem dL_law_804 : decode cL_law 804 = .ok (.lor, 1) := by decide +kernel
theorem dL_law_805 : decode cL_law 805 = .ok (.invokevirtual 116, 3) := by decide +kernel
theorem dL_law_808 : decode cL_law 808 = .ok (.aload_n 2, 1) := by decide +kernel
theorem dL_law_809 : decode cL_law 809 = .ok (.aload_n 0, 1) := by decide +kernel
theorem dL_law_810 : decode cL_law 810 = .ok (.iload_n 3, 1) := by decide +kernel
theorem dL_law_811 : decode cL_law 811 = .ok (.iconst 1, 1) := by decide +kernel
theorem dL_law_812 : decode cL_law 812 = .ok (.iadd, 1) := by decide +kernel
theorem dL_law_813 : decode cL_law 813 = .ok (.iaload, 1) := by decide +kernel
theorem dL_law_814 : decode cL_law 814 = .ok (.i2l, 1) := by decide +kernel
theorem dL_law_815 : decode cL_law 815 = .ok (.bipush 32, 2) := by decide +kernel
theorem dL_law_817 : decode cL_law 817 = .ok (.lshl, 1) := by decide +kernel
theorem dL_law_818 : decode cL_law 818 = .ok (.aload_n 0, 1) := by decide +kernel
theorem dL_law_819 : decode cL_law 819 = .ok (.iload_n 3, 1) := by decide +kernel
theorem dL_law_820 : decode cL_law 820 = .ok (.iconst 2, 1) := by decide +kernel
theorem dL_law_821 : decode cL_law 821 = .ok (.iadd, 1) := by decide +kernel
theorem dL_law_822 : decode cL_law 822 = .ok (.iaload, 1) := by decide +kernel
theorem dL_law_823 : decode cL_law 823 = .ok (.i2l, 1) := by decide +kernel
theorem dL_law_824 : decode cL_law 824 = .ok (.ldc2_w 114, 3) := by decide +kernel
theorem dL_law_827 : decode cL_law 827 = .ok (.land, 1) := by decide +kernel
theorem dL_law_828 : decode cL_law 828 = .ok (.lor, 1) := by decide +kernel
theorem dL_law_829 : decode cL_law 829 = .ok (.invokevirtual 120, 3) := by decide +kernel
theorem dL_law_832 : decode cL_law 832 = .ok (.if_icmp .eq 103, 3) := by decide +kernel
theorem dL_law_835 : decode cL_law 835 = .ok (.iconst 0, 1) := by decide +kernel
theorem dL_law_836 : decode cL_law 836 = .ok (.ireturn, 1) := by decide +kernel
theorem dL_law_837 : decode cL_law 837 = .ok (.aload_n 1, 1) := by decide +kernel
theorem dL_law_838 : decode cL_law 838 = .ok (.invokevirtual 121, 3) := by decide +kernel
theorem dL_law_841 : decode cL_law 841 = .ok (.aload_n 2, 1) := by decide +kernel
theorem dL_law_842 : decode cL_law 842 = .ok (.invokevirtual 124, 3) := by decide +kernel
theorem dL_law_845 : decode cL_law 845 = .ok (.if_icmp .eq 90, 3) := by decide +kernel
theorem dL_law_848 : decode cL_law 848 = .ok (.iconst 0, 1) := by decide +kernel
theorem dL_law_849 : decode cL_law 849 = .ok (.ireturn, 1) := by decide +kernel
theorem dL_law_850 : decode cL_law 850 = .ok (.aload_n 1, 1) := by decide +kernel
theorem dL_law_851 : decode cL_law 851 = .ok (.invokevirtual 125, 3) := by decide +kernel
theorem dL_law_854 : decode cL_law 854 = .ok (.aload_n 2, 1) := by decide +kernel
theorem dL_law_855 : decode cL_law 855 = .ok (.invokevirtual 128, 3) := by decide +kernel
theorem dL_law_858 : decode cL_law 858 = .ok (.if_icmp .eq 77, 3) := by decide +kernel
theorem dL_law_861 : decode cL_law 861 = .ok (.iconst 0, 1) := by decide +kernel
theorem dL_law_862 : decode cL_law 862 = .ok (.ireturn, 1) := by decide +kernel
theorem dL_law_863 : decode cL_law 863 = .ok (.aload_n 1, 1) := by decide +kernel
theorem dL_law_864 : decode cL_law 864 = .ok (.invokevirtual 129, 3) := by decide +kernel
theorem dL_law_867 : decode cL_law 867 = .ok (.aload_n 2, 1) := by decide +kernel
theorem dL_law_868 : decode cL_law 868 = .ok (.invokevirtual 132, 3) := by decide +kernel
theorem dL_law_871 : decode cL_law 871 = .ok (.if_icmp .eq 64, 3) := by decide +kernel
theorem dL_law_874 : decode cL_law 874 = .ok (.iconst 0, 1) := by decide +kernel
theorem dL_law_875 : decode cL_law 875 = .ok (.ireturn, 1) := by decide +kernel
theorem dL_law_876 : decode cL_law 876 = .ok (.aload_n 1, 1) := by decide +kernel
theorem dL_law_877 : decode cL_law 877 = .ok (.invokevirtual 133, 3) := by decide +kernel
theorem dL_law_880 : decode cL_law 880 = .ok (.aload_n 2, 1) := by decide +kernel
theorem dL_law_881 : decode cL_law 881 = .ok (.invokevirtual 136, 3) := by decide +kernel
theorem dL_law_884 : decode cL_law 884 = .ok (.if_icmp .eq 51, 3) := by decide +kernel
theorem dL_law_887 : decode cL_law 887 = .ok (.iconst 0, 1) := by decide +kernel
theorem dL_law_888 : decode cL_law 888 = .ok (.ireturn, 1) := by decide +kernel
theorem dL_law_889 : decode cL_law 889 = .ok (.aload_n 1, 1) := by decide +kernel
theorem dL_law_890 : decode cL_law 890 = .ok (.aload_n 0, 1) := by decide +kernel
theorem dL_law_891 : decode cL_law 891 = .ok (.iload_n 3, 1) := by decide +kernel
theorem dL_law_892 : decode cL_law 892 = .ok (.iconst 1, 1) := by decide +kernel
theorem dL_law_893 : decode cL_law 893 = .ok (.iadd, 1) := by decide +kernel
theorem dL_law_894 : decode cL_law 894 = .ok (.iaload, 1) := by decide +kernel
theorem dL_law_895 : decode cL_law 895 = .ok (.invokevirtual 137, 3) := by decide +kernel
theorem dL_law_898 : decode cL_law 898 = .ok (.aload_n 2, 1) := by decide +kernel
theorem dL_law_899 : decode cL_law 899 = .ok (.aload_n 0, 1) := by decide +kernel
theorem dL_law_900 : decode cL_law 900 = .ok (.iload_n 3, 1) := by decide +kernel
theorem dL_law_901 : decode cL_law 901 = .ok (.iconst 1, 1) := by decide +kernel
theorem dL_law_902 : decode cL_law 902 = .ok (.iadd, 1) := by decide +kernel
theorem dL_law_903 : decode cL_law 903 = .ok (.iaload, 1) := by decide +kernel
theorem dL_law_904 : decode cL_law 904 = .ok (.invokevirtual 140, 3) := by decide +kernel
theorem dL_law_907 : decode cL_law 907 = .ok (.if_icmp .eq 28, 3) := by decide +kernel
theorem dL_law_910 : decode cL_law 910 = .ok (.iconst 0, 1) := by decide +kernel
theorem dL_law_911 : decode cL_law 911 = .ok (.ireturn, 1) := by decide +kernel
theorem dL_law_912 : decode cL_law 912 = .ok (.aload_n 1, 1) := by decide +kernel
theorem dL_law_913 : decode cL_law 913 = .ok (.aload_n 0, 1) := by decide +kernel
theorem dL_law_914 : decode cL_law 914 = .ok (.iload_n 3, 1) := by decide +kernel
theorem dL_law_915 : decode cL_law 915 = .ok (.iconst 1, 1) := by decide +kernel
theorem dL_law_916 : decode cL_law 916 = .ok (.iadd, 1) := by decide +kernel
theorem dL_law_917 : decode cL_law 917 = .ok (.iaload, 1) := by decide +kernel
theorem dL_law_918 : decode cL_law 918 = .ok (.invokevirtual 141, 3) := by decide +kernel
theorem dL_law_921 : decode cL_law 921 = .ok (.aload_n 2, 1) := by decide +kernel
theorem dL_law_922 : decode cL_law 922 = .ok (.aload_n 0, 1) := by decide +kernel
theorem dL_law_923 : decode cL_law 923 = .ok (.iload_n 3, 1) := by decide +kernel
theorem dL_law_924 : decode cL_law 924 = .ok (.iconst 1, 1) := by decide +kernel
theorem dL_law_925 : decode cL_law 925 = .ok (.iadd, 1) := by decide +kernel
theorem dL_law_926 : decode cL_law 926 = .ok (.iaload, 1) := by decide +kernel
theorem dL_law_927 : decode cL_law 927 = .ok (.invokevirtual 144, 3) := by decide +kernel
theorem dL_law_930 : decode cL_law 930 = .ok (.if_icmp .eq 5, 3) := by decide +kernel
theorem dL_law_933 : decode cL_law 933 = .ok (.iconst 0, 1) := by decide +kernel
theorem dL_law_934 : decode cL_law 934 = .ok (.ireturn, 1) := by decide +kernel
theorem dL_law_935 : decode cL_law 935 = .ok (.iinc 3 5, 3) := by decide +kernel
theorem dL_law_938 : decode cL_law 938 = .ok (.goto (-920), 3) := by decide +kernel
theorem dL_law_941 : decode cL_law 941 = .ok (.iconst 1, 1) := by decide +kernel
theorem dL_law_942 : decode cL_law 942 = .ok (.ireturn, 1) := by decide +kernel
abbrev vwCl : List vw_C := [(RX0, TX0, 5), (RX1, TX1, 2), (RX2, TX2, 11), (RX3, TX3, 3), (RX4, TX4, 4), (RX5, TX5, 4), (RX6, TX6, 5), (RX7, TX7, 4), (RX8, TX8, 7), (RX10, TX10, 6), (RX11, TX11, 9), (RX12, TX12, 19)]
