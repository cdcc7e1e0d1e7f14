def RX0 : String := "PinHouse$Door"
def TX0 : u_T := fun k => match k with
  | 0 => ("PinHouse$Door", "one", "I", false)
  | 1 => ("PinHouse$Door", "other", "I", false)
  | 2 => ("PinHouse$Door", "first", "I", false)
  | 3 => ("PinHouse$Door", "second", "I", false)
  | _ => ("PinHouse$Door", "timesCut", "I", false)
def tyX0 : Nat → FieldType := fun k => match k with
  | 0 => .int
  | 1 => .int
  | 2 => .int
  | 3 => .int
  | _ => .int
abbrev wsX00 : List Cond := u_ws RX0 TX0 5
theorem nmX0 : ∀ a, a < 5 → ∀ b, b < 5 → a ≠ b → (TX0 a).2.1 ≠ (TX0 b).2.1 := by decide +kernel
theorem tyX0_ok : ∀ k, k < 5 → parseFieldDescriptor (TX0 k).2.2.1 = some (tyX0 k) := by decide +kernel
abbrev cX0_init : ByteArray := prog_2_method_1_code
def yX0_init : MethodName := ⟨RX0, "<init>", "()V"⟩
abbrev cX0_copyFrom : ByteArray := prog_2_method_2_code
def yX0_copyFrom : MethodName := ⟨RX0, "copyFrom", "(LPinHouse$Door;)V"⟩
abbrev cX0_build : ByteArray := prog_2_method_3_code
def yX0_build : MethodName := ⟨RX0, "build", "(IIII)V"⟩
abbrev cX0_weight : ByteArray := prog_2_method_4_code
def yX0_weight : MethodName := ⟨RX0, "weight", "()I"⟩
abbrev cX0_isOpenedBy : ByteArray := prog_2_method_5_code
def yX0_isOpenedBy : MethodName := ⟨RX0, "isOpenedBy", "(I)Z"⟩
abbrev cX0_beyond : ByteArray := prog_2_method_6_code
def yX0_beyond : MethodName := ⟨RX0, "beyond", "(I)I"⟩
def RX1 : String := "PinHouse$History"
def TX1 : u_T := fun k => match k with
  | 0 => ("PinHouse$History", "states", "[LPinHouse$House;", true)
  | _ => ("PinHouse$History", "size", "I", false)
def tyX1 : Nat → FieldType := fun k => match k with
  | 0 => .array (.object "PinHouse$House")
  | _ => .int
abbrev wsX10 : List Cond := u_ws RX1 TX1 2
theorem nmX1 : ∀ a, a < 2 → ∀ b, b < 2 → a ≠ b → (TX1 a).2.1 ≠ (TX1 b).2.1 := by decide +kernel
theorem tyX1_ok : ∀ k, k < 2 → parseFieldDescriptor (TX1 k).2.2.1 = some (tyX1 k) := by decide +kernel
abbrev cX1_init : ByteArray := prog_3_method_1_code
def yX1_init : MethodName := ⟨RX1, "<init>", "()V"⟩
abbrev cX1_keep : ByteArray := prog_3_method_2_code
def yX1_keep : MethodName := ⟨RX1, "keep", "(LPinHouse$House;)LPinHouse$House;"⟩
def RX2 : String := "PinHouse$House"
def TX2 : u_T := fun k => match k with
  | 0 => ("PinHouse$House", "settings", "[I", true)
  | 1 => ("PinHouse$House", "doors", "[LPinHouse$Door;", true)
  | 2 => ("PinHouse$House", "keys", "[LPinHouse$Key;", true)
  | 3 => ("PinHouse$House", "plan", "LPinHouse$Plan;", true)
  | 4 => ("PinHouse$House", "doorCount", "I", false)
  | 5 => ("PinHouse$House", "keyCount", "I", false)
  | 6 => ("PinHouse$House", "room", "I", false)
  | 7 => ("PinHouse$House", "walked", "I", false)
  | 8 => ("PinHouse$House", "box", "I", false)
  | 9 => ("PinHouse$House", "cameIn", "I", false)
  | _ => ("PinHouse$House", "lost", "I", false)
def tyX2 : Nat → FieldType := fun k => match k with
  | 0 => .array .int
  | 1 => .array (.object "PinHouse$Door")
  | 2 => .array (.object "PinHouse$Key")
  | 3 => .object "PinHouse$Plan"
  | 4 => .int
  | 5 => .int
  | 6 => .int
  | 7 => .int
  | 8 => .int
  | 9 => .int
  | _ => .int
abbrev wsX20 : List Cond := u_ws RX2 TX2 11
theorem nmX2 : ∀ a, a < 11 → ∀ b, b < 11 → a ≠ b → (TX2 a).2.1 ≠ (TX2 b).2.1 := by decide +kernel
theorem tyX2_ok : ∀ k, k < 11 → parseFieldDescriptor (TX2 k).2.2.1 = some (tyX2 k) := by decide +kernel
abbrev cX2_init : ByteArray := prog_4_method_1_code
def yX2_init : MethodName := ⟨RX2, "<init>", "()V"⟩
abbrev cX2_copyFrom : ByteArray := prog_4_method_2_code
def yX2_copyFrom : MethodName := ⟨RX2, "copyFrom", "(LPinHouse$House;)V"⟩
abbrev cX2_isRoom : ByteArray := prog_4_method_3_code
def yX2_isRoom : MethodName := ⟨RX2, "isRoom", "(I)Z"⟩
abbrev cX2_hasDoor : ByteArray := prog_4_method_4_code
def yX2_hasDoor : MethodName := ⟨RX2, "hasDoor", "(I)Z"⟩
abbrev cX2_hasKey : ByteArray := prog_4_method_6_code
def yX2_hasKey : MethodName := ⟨RX2, "hasKey", "(I)Z"⟩
abbrev cX2_changeSetting : ByteArray := prog_4_method_7_code
def yX2_changeSetting : MethodName := ⟨RX2, "changeSetting", "(II)I"⟩
abbrev cX2_bringBrass : ByteArray := prog_4_method_8_code
def yX2_bringBrass : MethodName := ⟨RX2, "bringBrass", "(I)I"⟩
abbrev cX2_makeDoor : ByteArray := prog_4_method_9_code
def yX2_makeDoor : MethodName := ⟨RX2, "makeDoor", "(IIII)I"⟩
abbrev cX2_cutAnew : ByteArray := prog_4_method_10_code
def yX2_cutAnew : MethodName := ⟨RX2, "cutAnew", "(III)I"⟩
abbrev cX2_makeKey : ByteArray := prog_4_method_11_code
def yX2_makeKey : MethodName := ⟨RX2, "makeKey", "(II)I"⟩
abbrev cX2_meltKey : ByteArray := prog_4_method_12_code
def yX2_meltKey : MethodName := ⟨RX2, "meltKey", "(I)I"⟩
abbrev cX2_takeKey : ByteArray := prog_4_method_13_code
def yX2_takeKey : MethodName := ⟨RX2, "takeKey", "(I)I"⟩
abbrev cX2_layKeyDown : ByteArray := prog_4_method_14_code
def yX2_layKeyDown : MethodName := ⟨RX2, "layKeyDown", "(I)I"⟩
abbrev cX2_moveKey : ByteArray := prog_4_method_15_code
def yX2_moveKey : MethodName := ⟨RX2, "moveKey", "(III)I"⟩
abbrev cX2_walkThrough : ByteArray := prog_4_method_16_code
def yX2_walkThrough : MethodName := ⟨RX2, "walkThrough", "(I)I"⟩
abbrev cX2_planCut : ByteArray := prog_4_method_17_code
def yX2_planCut : MethodName := ⟨RX2, "planCut", "(III)I"⟩
abbrev cX2_emptyPlan : ByteArray := prog_4_method_18_code
def yX2_emptyPlan : MethodName := ⟨RX2, "emptyPlan", "()I"⟩
abbrev cX2_carryPlanned : ByteArray := prog_4_method_19_code
def yX2_carryPlanned : MethodName := ⟨RX2, "carryPlanned", "(I)I"⟩
abbrev cX2_keysAt : ByteArray := prog_4_method_21_code
def yX2_keysAt : MethodName := ⟨RX2, "keysAt", "(I)I"⟩
abbrev cX2_keysOpening : ByteArray := prog_4_method_22_code
def yX2_keysOpening : MethodName := ⟨RX2, "keysOpening", "(I)I"⟩
abbrev cX2_doorsOpenedBy : ByteArray := prog_4_method_23_code
def yX2_doorsOpenedBy : MethodName := ⟨RX2, "doorsOpenedBy", "(I)I"⟩
abbrev cX2_brassInLocks : ByteArray := prog_4_method_24_code
def yX2_brassInLocks : MethodName := ⟨RX2, "brassInLocks", "()I"⟩
abbrev cX2_brassInKeys : ByteArray := prog_4_method_25_code
def yX2_brassInKeys : MethodName := ⟨RX2, "brassInKeys", "()I"⟩
abbrev cX2_aboutDoor : ByteArray := prog_4_method_26_code
def yX2_aboutDoor : MethodName := ⟨RX2, "aboutDoor", "(II)I"⟩
abbrev cX2_aboutKey : ByteArray := prog_4_method_27_code
def yX2_aboutKey : MethodName := ⟨RX2, "aboutKey", "(II)I"⟩
abbrev cX2_aboutAll : ByteArray := prog_4_method_28_code
def yX2_aboutAll : MethodName := ⟨RX2, "aboutAll", "(I)I"⟩
def RX3 : String := "PinHouse$Key"
def TX3 : u_T := fun k => match k with
  | 0 => ("PinHouse$Key", "cuts", "I", false)
  | 1 => ("PinHouse$Key", "weight", "I", false)
  | _ => ("PinHouse$Key", "place", "I", false)
def tyX3 : Nat → FieldType := fun k => match k with
  | 0 => .int
  | 1 => .int
  | _ => .int
abbrev wsX30 : List Cond := u_ws RX3 TX3 3
theorem nmX3 : ∀ a, a < 3 → ∀ b, b < 3 → a ≠ b → (TX3 a).2.1 ≠ (TX3 b).2.1 := by decide +kernel
theorem tyX3_ok : ∀ k, k < 3 → parseFieldDescriptor (TX3 k).2.2.1 = some (tyX3 k) := by decide +kernel
abbrev cX3_init : ByteArray := prog_5_method_1_code
def yX3_init : MethodName := ⟨RX3, "<init>", "()V"⟩
abbrev cX3_copyFrom : ByteArray := prog_5_method_2_code
def yX3_copyFrom : MethodName := ⟨RX3, "copyFrom", "(LPinHouse$Key;)V"⟩
def RX4 : String := "PinHouse$KeySearch"
def TX4 : u_T := fun k => match k with
  | 0 => ("PinHouse$KeySearch", "fitting", "[I", true)
  | 1 => ("PinHouse$KeySearch", "ways", "[I", true)
  | 2 => ("PinHouse$KeySearch", "waysOn", "[I", true)
  | _ => ("PinHouse$KeySearch", "step", "I", false)
def tyX4 : Nat → FieldType := fun k => match k with
  | 0 => .array .int
  | 1 => .array .int
  | 2 => .array .int
  | _ => .int
abbrev wsX40 : List Cond := u_ws RX4 TX4 4
theorem nmX4 : ∀ a, a < 4 → ∀ b, b < 4 → a ≠ b → (TX4 a).2.1 ≠ (TX4 b).2.1 := by decide +kernel
theorem tyX4_ok : ∀ k, k < 4 → parseFieldDescriptor (TX4 k).2.2.1 = some (tyX4 k) := by decide +kernel
abbrev cX4_init : ByteArray := prog_6_method_1_code
def yX4_init : MethodName := ⟨RX4, "<init>", "()V"⟩
def RX5 : String := "PinHouse$Order"
def TX5 : u_T := fun k => match k with
  | 0 => ("PinHouse$Order", "kind", "C", false)
  | 1 => ("PinHouse$Order", "number", "I", false)
  | 2 => ("PinHouse$Order", "first", "I", false)
  | _ => ("PinHouse$Order", "second", "I", false)
def tyX5 : Nat → FieldType := fun k => match k with
  | 0 => .char
  | 1 => .int
  | 2 => .int
  | _ => .int
abbrev wsX50 : List Cond := u_ws RX5 TX5 4
theorem nmX5 : ∀ a, a < 4 → ∀ b, b < 4 → a ≠ b → (TX5 a).2.1 ≠ (TX5 b).2.1 := by decide +kernel
theorem tyX5_ok : ∀ k, k < 4 → parseFieldDescriptor (TX5 k).2.2.1 = some (tyX5 k) := by decide +kernel
abbrev cX5_init : ByteArray := prog_7_method_1_code
def yX5_init : MethodName := ⟨RX5, "<init>", "()V"⟩
def RX6 : String := "PinHouse$Pad"
def TX6 : u_T := fun k => match k with
  | 0 => ("PinHouse$Pad", "signs", "[C", true)
  | 1 => ("PinHouse$Pad", "length", "I", false)
  | 2 => ("PinHouse$Pad", "orders", "[LPinHouse$Order;", true)
  | 3 => ("PinHouse$Pad", "orderCount", "I", false)
  | _ => ("PinHouse$Pad", "at", "I", false)
def tyX6 : Nat → FieldType := fun k => match k with
  | 0 => .array .char
  | 1 => .int
  | 2 => .array (.object "PinHouse$Order")
  | 3 => .int
  | _ => .int
abbrev wsX60 : List Cond := u_ws RX6 TX6 5
theorem nmX6 : ∀ a, a < 5 → ∀ b, b < 5 → a ≠ b → (TX6 a).2.1 ≠ (TX6 b).2.1 := by decide +kernel
theorem tyX6_ok : ∀ k, k < 5 → parseFieldDescriptor (TX6 k).2.2.1 = some (tyX6 k) := by decide +kernel
abbrev cX6_init : ByteArray := prog_8_method_1_code
def yX6_init : MethodName := ⟨RX6, "<init>", "()V"⟩
def RX7 : String := "PinHouse$Plan"
def TX7 : u_T := fun k => match k with
  | 0 => ("PinHouse$Plan", "doors", "[I", true)
  | 1 => ("PinHouse$Plan", "firsts", "[I", true)
  | 2 => ("PinHouse$Plan", "seconds", "[I", true)
  | _ => ("PinHouse$Plan", "size", "I", false)
def tyX7 : Nat → FieldType := fun k => match k with
  | 0 => .array .int
  | 1 => .array .int
  | 2 => .array .int
  | _ => .int
abbrev wsX70 : List Cond := u_ws RX7 TX7 4
theorem nmX7 : ∀ a, a < 4 → ∀ b, b < 4 → a ≠ b → (TX7 a).2.1 ≠ (TX7 b).2.1 := by decide +kernel
theorem tyX7_ok : ∀ k, k < 4 → parseFieldDescriptor (TX7 k).2.2.1 = some (tyX7 k) := by decide +kernel
abbrev cX7_init : ByteArray := prog_9_method_1_code
def yX7_init : MethodName := ⟨RX7, "<init>", "()V"⟩
abbrev cX7_copyFrom : ByteArray := prog_9_method_2_code
def yX7_copyFrom : MethodName := ⟨RX7, "copyFrom", "(LPinHouse$Plan;)V"⟩
abbrev cX7_placeOf : ByteArray := prog_9_method_3_code
def yX7_placeOf : MethodName := ⟨RX7, "placeOf", "(I)I"⟩
def RX8 : String := "PinHouse$PlanSearch"
def TX8 : u_T := fun k => match k with
  | 0 => ("PinHouse$PlanSearch", "back", "[I", true)
  | 1 => ("PinHouse$PlanSearch", "needed", "[I", true)
  | 2 => ("PinHouse$PlanSearch", "boxAfter", "[I", true)
  | 3 => ("PinHouse$PlanSearch", "orders", "[I", true)
  | 4 => ("PinHouse$PlanSearch", "lasts", "[I", true)
  | 5 => ("PinHouse$PlanSearch", "missing", "[I", true)
  | _ => ("PinHouse$PlanSearch", "size", "I", false)
def tyX8 : Nat → FieldType := fun k => match k with
  | 0 => .array .int
  | 1 => .array .int
  | 2 => .array .int
  | 3 => .array .int
  | 4 => .array .int
  | 5 => .array .int
  | _ => .int
abbrev wsX80 : List Cond := u_ws RX8 TX8 7
theorem nmX8 : ∀ a, a < 7 → ∀ b, b < 7 → a ≠ b → (TX8 a).2.1 ≠ (TX8 b).2.1 := by decide +kernel
theorem tyX8_ok : ∀ k, k < 7 → parseFieldDescriptor (TX8 k).2.2.1 = some (tyX8 k) := by decide +kernel
abbrev cX8_init : ByteArray := prog_10_method_1_code
def yX8_init : MethodName := ⟨RX8, "<init>", "()V"⟩
abbrev cX8_work : ByteArray := prog_10_method_2_code
def yX8_work : MethodName := ⟨RX8, "work", "(LPinHouse$House;)V"⟩
abbrev cX8_weigh : ByteArray := prog_10_method_3_code
def yX8_weigh : MethodName := ⟨RX8, "weigh", "(LPinHouse$House;I)V"⟩
abbrev cX8_gainOf : ByteArray := prog_10_method_4_code
def yX8_gainOf : MethodName := ⟨RX8, "gainOf", "(I)I"⟩
abbrev cX8_missingFor : ByteArray := prog_10_method_5_code
def yX8_missingFor : MethodName := ⟨RX8, "missingFor", "(II)I"⟩
abbrev cX8_lookOn : ByteArray := prog_10_method_6_code
def yX8_lookOn : MethodName := ⟨RX8, "lookOn", "(I)V"⟩
abbrev cX8_howManyOrders : ByteArray := prog_10_method_7_code
def yX8_howManyOrders : MethodName := ⟨RX8, "howManyOrders", "()I"⟩
abbrev cX8_leastBrass : ByteArray := prog_10_method_8_code
def yX8_leastBrass : MethodName := ⟨RX8, "leastBrass", "()I"⟩
abbrev cX8_onlyLast : ByteArray := prog_10_method_9_code
def yX8_onlyLast : MethodName := ⟨RX8, "onlyLast", "()I"⟩
abbrev cX8_firstOrderAt : ByteArray := prog_10_method_10_code
def yX8_firstOrderAt : MethodName := ⟨RX8, "firstOrderAt", "(I)I"⟩
abbrev cX8_leastNext : ByteArray := prog_10_method_11_code
def yX8_leastNext : MethodName := ⟨RX8, "leastNext", "(I)I"⟩
def RX9 : String := "PinHouse$Rows"
def TX9 : u_T := fun k => match k with
  | _ => ("", "", "", false)
def tyX9 : Nat → FieldType := fun k => match k with
  | _ => .int
abbrev wsX90 : List Cond := u_ws RX9 TX9 0
theorem nmX9 : ∀ a, a < 0 → ∀ b, b < 0 → a ≠ b → (TX9 a).2.1 ≠ (TX9 b).2.1 := by decide +kernel
theorem tyX9_ok : ∀ k, k < 0 → parseFieldDescriptor (TX9 k).2.2.1 = some (tyX9 k) := by decide +kernel
abbrev cX9_isRow : ByteArray := prog_11_method_2_code
def yX9_isRow : MethodName := ⟨RX9, "isRow", "(I)Z"⟩
abbrev cX9_canBeKey : ByteArray := prog_11_method_3_code
def yX9_canBeKey : MethodName := ⟨RX9, "canBeKey", "(II)Z"⟩
abbrev cX9_sumOfDepths : ByteArray := prog_11_method_4_code
def yX9_sumOfDepths : MethodName := ⟨RX9, "sumOfDepths", "(I)I"⟩
abbrev cX9_lockWeight : ByteArray := prog_11_method_5_code
def yX9_lockWeight : MethodName := ⟨RX9, "lockWeight", "(II)I"⟩
abbrev cX9_lossOf : ByteArray := prog_11_method_6_code
def yX9_lossOf : MethodName := ⟨RX9, "lossOf", "(II)I"⟩
def RX10 : String := "PinHouse$WalkSearch"
def TX10 : u_T := fun k => match k with
  | 0 => ("PinHouse$WalkSearch", "openers", "[I", true)
  | 1 => ("PinHouse$WalkSearch", "keysIn", "[I", true)
  | 2 => ("PinHouse$WalkSearch", "queue", "[I", true)
  | 3 => ("PinHouse$WalkSearch", "seen", "[Z", true)
  | 4 => ("PinHouse$WalkSearch", "carried", "I", false)
  | _ => ("PinHouse$WalkSearch", "queued", "I", false)
def tyX10 : Nat → FieldType := fun k => match k with
  | 0 => .array .int
  | 1 => .array .int
  | 2 => .array .int
  | 3 => .array .boolean
  | 4 => .int
  | _ => .int
abbrev wsX100 : List Cond := u_ws RX10 TX10 6
theorem nmX10 : ∀ a, a < 6 → ∀ b, b < 6 → a ≠ b → (TX10 a).2.1 ≠ (TX10 b).2.1 := by decide +kernel
theorem tyX10_ok : ∀ k, k < 6 → parseFieldDescriptor (TX10 k).2.2.1 = some (tyX10 k) := by decide +kernel
abbrev cX10_init : ByteArray := prog_12_method_1_code
def yX10_init : MethodName := ⟨RX10, "<init>", "()V"⟩
abbrev cX10_work : ByteArray := prog_12_method_2_code
def yX10_work : MethodName := ⟨RX10, "work", "(LPinHouse$House;)V"⟩
abbrev cX10_keysAfter : ByteArray := prog_12_method_3_code
def yX10_keysAfter : MethodName := ⟨RX10, "keysAfter", "(I)I"⟩
abbrev cX10_roomsInReach : ByteArray := prog_12_method_4_code
def yX10_roomsInReach : MethodName := ⟨RX10, "roomsInReach", "(LPinHouse$House;)I"⟩
abbrev cX10_roomsBeyond : ByteArray := prog_12_method_5_code
def yX10_roomsBeyond : MethodName := ⟨RX10, "roomsBeyond", "(LPinHouse$House;I)I"⟩
abbrev cX10_fewestDoors : ByteArray := prog_12_method_6_code
def yX10_fewestDoors : MethodName := ⟨RX10, "fewestDoors", "(LPinHouse$House;I)I"⟩
abbrev cX10_enqueueBeyond : ByteArray := prog_12_method_7_code
def yX10_enqueueBeyond : MethodName := ⟨RX10, "enqueueBeyond", "(LPinHouse$House;I)V"⟩
abbrev cX10_enqueue : ByteArray := prog_12_method_8_code
def yX10_enqueue : MethodName := ⟨RX10, "enqueue", "(II)V"⟩
def RX11 : String := "PinHouse"
def TX11 : u_T := fun k => match k with
  | 0 => ("PinHouse", "now", "LPinHouse$House;", true)
  | 1 => ("PinHouse", "before", "LPinHouse$House;", false)
  | 2 => ("PinHouse", "history", "LPinHouse$History;", true)
  | 3 => ("PinHouse", "slots", "[LPinHouse$House;", true)
  | 4 => ("PinHouse", "saved", "[Z", true)
  | 5 => ("PinHouse", "pad", "LPinHouse$Pad;", true)
  | 6 => ("PinHouse", "keySearch", "LPinHouse$KeySearch;", true)
  | 7 => ("PinHouse", "walkSearch", "LPinHouse$WalkSearch;", true)
  | _ => ("PinHouse", "planSearch", "LPinHouse$PlanSearch;", true)
def tyX11 : Nat → FieldType := fun k => match k with
  | 0 => .object "PinHouse$House"
  | 1 => .object "PinHouse$House"
  | 2 => .object "PinHouse$History"
  | 3 => .array (.object "PinHouse$House")
  | 4 => .array .boolean
  | 5 => .object "PinHouse$Pad"
  | 6 => .object "PinHouse$KeySearch"
  | 7 => .object "PinHouse$WalkSearch"
  | _ => .object "PinHouse$PlanSearch"
abbrev wsX110 : List Cond := u_ws RX11 TX11 9
theorem nmX11 : ∀ a, a < 9 → ∀ b, b < 9 → a ≠ b → (TX11 a).2.1 ≠ (TX11 b).2.1 := by decide +kernel
theorem tyX11_ok : ∀ k, k < 9 → parseFieldDescriptor (TX11 k).2.2.1 = some (tyX11 k) := by decide +kernel
abbrev cX11_init : ByteArray := prog_1_method_1_code
def yX11_init : MethodName := ⟨RX11, "<init>", "()V"⟩
abbrev cX11_set : ByteArray := prog_1_method_2_code
def yX11_set : MethodName := ⟨RX11, "set", "(II)I"⟩
abbrev cX11_brass : ByteArray := prog_1_method_3_code
def yX11_brass : MethodName := ⟨RX11, "brass", "(I)I"⟩
abbrev cX11_door : ByteArray := prog_1_method_4_code
def yX11_door : MethodName := ⟨RX11, "door", "(IIII)I"⟩
abbrev cX11_cut : ByteArray := prog_1_method_5_code
def yX11_cut : MethodName := ⟨RX11, "cut", "(III)I"⟩
abbrev cX11_key : ByteArray := prog_1_method_6_code
def yX11_key : MethodName := ⟨RX11, "key", "(II)I"⟩
abbrev cX11_melt : ByteArray := prog_1_method_7_code
def yX11_melt : MethodName := ⟨RX11, "melt", "(I)I"⟩
abbrev cX11_take : ByteArray := prog_1_method_8_code
def yX11_take : MethodName := ⟨RX11, "take", "(I)I"⟩
abbrev cX11_putDown : ByteArray := prog_1_method_9_code
def yX11_putDown : MethodName := ⟨RX11, "putDown", "(I)I"⟩
abbrev cX11_go : ByteArray := prog_1_method_10_code
def yX11_go : MethodName := ⟨RX11, "go", "(I)I"⟩
abbrev cX11_plan : ByteArray := prog_1_method_11_code
def yX11_plan : MethodName := ⟨RX11, "plan", "(III)I"⟩
abbrev cX11_dropPlan : ByteArray := prog_1_method_12_code
def yX11_dropPlan : MethodName := ⟨RX11, "dropPlan", "()I"⟩
abbrev cX11_carryPlan : ByteArray := prog_1_method_13_code
def yX11_carryPlan : MethodName := ⟨RX11, "carryPlan", "()I"⟩
abbrev cX11_ofDoor : ByteArray := prog_1_method_14_code
def yX11_ofDoor : MethodName := ⟨RX11, "ofDoor", "(II)I"⟩
abbrev cX11_ofKey : ByteArray := prog_1_method_15_code
def yX11_ofKey : MethodName := ⟨RX11, "ofKey", "(II)I"⟩
abbrev cX11_count : ByteArray := prog_1_method_16_code
def yX11_count : MethodName := ⟨RX11, "count", "(I)I"⟩
abbrev cX11_opens : ByteArray := prog_1_method_17_code
def yX11_opens : MethodName := ⟨RX11, "opens", "(II)I"⟩
abbrev cX11_reach : ByteArray := prog_1_method_20_code
def yX11_reach : MethodName := ⟨RX11, "reach", "()I"⟩
abbrev cX11_doorsTo : ByteArray := prog_1_method_21_code
def yX11_doorsTo : MethodName := ⟨RX11, "doorsTo", "(I)I"⟩
abbrev cX11_planOrder : ByteArray := prog_1_method_22_code
def yX11_planOrder : MethodName := ⟨RX11, "planOrder", "(I)I"⟩
abbrev cX11_planOrders : ByteArray := prog_1_method_23_code
def yX11_planOrders : MethodName := ⟨RX11, "planOrders", "()I"⟩
abbrev cX11_mustBeLast : ByteArray := prog_1_method_24_code
def yX11_mustBeLast : MethodName := ⟨RX11, "mustBeLast", "()I"⟩
abbrev cX11_brassForPlan : ByteArray := prog_1_method_25_code
def yX11_brassForPlan : MethodName := ⟨RX11, "brassForPlan", "()I"⟩
abbrev cX11_recorded : ByteArray := prog_1_method_34_code
def yX11_recorded : MethodName := ⟨RX11, "recorded", "(I)I"⟩
def RX12 : String := "PinHouseModel"
def TX12 : u_T := fun k => match k with
  | _ => ("", "", "", false)
def tyX12 : Nat → FieldType := fun k => match k with
  | _ => .int
abbrev wsX120 : List Cond := u_ws RX12 TX12 0
theorem nmX12 : ∀ a, a < 0 → ∀ b, b < 0 → a ≠ b → (TX12 a).2.1 ≠ (TX12 b).2.1 := by decide +kernel
theorem tyX12_ok : ∀ k, k < 0 → parseFieldDescriptor (TX12 k).2.2.1 = some (tyX12 k) := by decide +kernel
def RL : String := "PinHouseLaw"
abbrev cL_cell : ByteArray := method_2_code
def yL_cell : MethodName := ⟨RL, "cell", "([III)I"⟩
abbrev cL_has : ByteArray := method_3_code
def yL_has : MethodName := ⟨RL, "has", "(II)Z"⟩
abbrev cL_digit : ByteArray := method_4_code
def yL_digit : MethodName := ⟨RL, "digit", "(II)I"⟩
abbrev cL_weight : ByteArray := method_5_code
def yL_weight : MethodName := ⟨RL, "weight", "(II)I"⟩
abbrev cL_fits : ByteArray := method_6_code
def yL_fits : MethodName := ⟨RL, "fits", "(III)Z"⟩
abbrev cL_isKey : ByteArray := method_7_code
def yL_isKey : MethodName := ⟨RL, "isKey", "(II)Z"⟩
abbrev cL_loss : ByteArray := method_8_code
def yL_loss : MethodName := ⟨RL, "loss", "(LPinHouse;I)I"⟩
abbrev cL_agree : ByteArray := method_9_code
def yL_agree : MethodName := ⟨RL, "agree", "(LPinHouse;)Z"⟩
abbrev cL_isDoor : ByteArray := method_10_code
def yL_isDoor : MethodName := ⟨RL, "isDoor", "(LPinHouse;IIII)Z"⟩
abbrev cL_isCut : ByteArray := method_11_code
def yL_isCut : MethodName := ⟨RL, "isCut", "(LPinHouse;III)Z"⟩
abbrev cL_isCutKey : ByteArray := method_12_code
def yL_isCutKey : MethodName := ⟨RL, "isCutKey", "(LPinHouse;II)Z"⟩
abbrev cL_isMelted : ByteArray := method_13_code
def yL_isMelted : MethodName := ⟨RL, "isMelted", "(LPinHouse;I)Z"⟩
abbrev cL_isTaken : ByteArray := method_14_code
def yL_isTaken : MethodName := ⟨RL, "isTaken", "(LPinHouse;I)Z"⟩
abbrev cL_isPut : ByteArray := method_15_code
def yL_isPut : MethodName := ⟨RL, "isPut", "(LPinHouse;I)Z"⟩
abbrev cL_isGone : ByteArray := method_16_code
def yL_isGone : MethodName := ⟨RL, "isGone", "(LPinHouse;I)Z"⟩
abbrev cL_isPlanned : ByteArray := method_17_code
def yL_isPlanned : MethodName := ⟨RL, "isPlanned", "(LPinHouse;III)Z"⟩
abbrev cL_isCarried : ByteArray := method_18_code
def yL_isCarried : MethodName := ⟨RL, "isCarried", "(LPinHouse;)Z"⟩
abbrev cL_row : ByteArray := method_19_code
def yL_row : MethodName := ⟨RL, "row", "([II)I"⟩
abbrev cL_isAct : ByteArray := method_20_code
def yL_isAct : MethodName := ⟨RL, "isAct", "(LPinHouse;[II)Z"⟩
abbrev cL_law : ByteArray := code
def yL_law : MethodName := ⟨RL, "law", "([I)Z"⟩
theorem dX0_init_0 : decode cX0_init 0 = .ok (.aload_n 0, 1) := by decide +kernel
theorem dX0_init_1 : decode cX0_init 1 = .ok (.invokespecial 3, 3) := by decide +kernel
theorem dX0_init_4 : decode cX0_init 4 = .ok (.return_, 1) := by decide +kernel
theorem dX0_copyFrom_0 : decode cX0_copyFrom 0 = .ok (.aload_n 0, 1) := by decide +kernel
theorem dX0_copyFrom_1 : decode cX0_copyFrom 1 = .ok (.aload_n 1, 1) := by decide +kernel
theorem dX0_copyFrom_2 : decode cX0_copyFrom 2 = .ok (.getfield 9, 3) := by decide +kernel
theorem dX0_copyFrom_5 : decode cX0_copyFrom 5 = .ok (.putfield 9, 3) := by decide +kernel
theorem dX0_copyFrom_8 : decode cX0_copyFrom 8 = .ok (.aload_n 0, 1) := by decide +kernel
theorem dX0_copyFrom_9 : decode cX0_copyFrom 9 = .ok (.aload_n 1, 1) := by decide +kernel
theorem dX0_copyFrom_10 : decode cX0_copyFrom 10 = .ok (.getfield 15, 3) := by decide +kernel
theorem dX0_copyFrom_13 : decode cX0_copyFrom 13 = .ok (.putfield 15, 3) := by decide +kernel
theorem dX0_copyFrom_16 : decode cX0_copyFrom 16 = .ok (.aload_n 0, 1) := by decide +kernel
theorem dX0_copyFrom_17 : decode cX0_copyFrom 17 = .ok (.aload_n 1, 1) := by decide +kernel
theorem dX0_copyFrom_18 : decode cX0_copyFrom 18 = .ok (.getfield 18, 3) := by decide +kernel
theorem dX0_copyFrom_21 : decode cX0_copyFrom 21 = .ok (.putfield 18, 3) := by decide +kernel
theorem dX0_copyFrom_24 : decode cX0_copyFrom 24 = .ok (.aload_n 0, 1) := by decide +kernel
theorem dX0_copyFrom_25 : decode cX0_copyFrom 25 = .ok (.aload_n 1, 1) := by decide +kernel
theorem dX0_copyFrom_26 : decode cX0_copyFrom 26 = .ok (.getfield 21, 3) := by decide +kernel
theorem dX0_copyFrom_29 : decode cX0_copyFrom 29 = .ok (.putfield 21, 3) := by decide +kernel
theorem dX0_copyFrom_32 : decode cX0_copyFrom 32 = .ok (.aload_n 0, 1) := by decide +kernel
theorem dX0_copyFrom_33 : decode cX0_copyFrom 33 = .ok (.aload_n 1, 1) := by decide +kernel
theorem dX0_copyFrom_34 : decode cX0_copyFrom 34 = .ok (.getfield 24, 3) := by decide +kernel
theorem dX0_copyFrom_37 : decode cX0_copyFrom 37 = .ok (.putfield 24, 3) := by decide +kernel
theorem dX0_copyFrom_40 : decode cX0_copyFrom 40 = .ok (.return_, 1) := by decide +kernel
theorem dX0_build_0 : decode cX0_build 0 = .ok (.aload_n 0, 1) := by decide +kernel
theorem dX0_build_1 : decode cX0_build 1 = .ok (.iload_n 1, 1) := by decide +kernel
theorem dX0_build_2 : decode cX0_build 2 = .ok (.putfield 9, 3) := by decide +kernel
theorem dX0_build_5 : decode cX0_build 5 = .ok (.aload_n 0, 1) := by decide +kernel
theorem dX0_build_6 : decode cX0_build 6 = .ok (.iload_n 2, 1) := by decide +kernel
theorem dX0_build_7 : decode cX0_build 7 = .ok (.putfield 15, 3) := by decide +kernel
theorem dX0_build_10 : decode cX0_build 10 = .ok (.aload_n 0, 1) := by decide +kernel
theorem dX0_build_11 : decode cX0_build 11 = .ok (.iload_n 3, 1) := by decide +kernel
theorem dX0_build_12 : decode cX0_build 12 = .ok (.putfield 18, 3) := by decide +kernel
theorem dX0_build_15 : decode cX0_build 15 = .ok (.aload_n 0, 1) := by decide +kernel
theorem dX0_build_16 : decode cX0_build 16 = .ok (.iload 4, 2) := by decide +kernel
theorem dX0_build_18 : decode cX0_build 18 = .ok (.putfield 21, 3) := by decide +kernel
theorem dX0_build_21 : decode cX0_build 21 = .ok (.aload_n 0, 1) := by decide +kernel
theorem dX0_build_22 : decode cX0_build 22 = .ok (.iconst 0, 1) := by decide +kernel
theorem dX0_build_23 : decode cX0_build 23 = .ok (.putfield 24, 3) := by decide +kernel
theorem dX0_build_26 : decode cX0_build 26 = .ok (.return_, 1) := by decide +kernel
theorem dX0_weight_0 : decode cX0_weight 0 = .ok (.aload_n 0, 1) := by decide +kernel
theorem dX0_weight_1 : decode cX0_weight 1 = .ok (.getfield 18, 3) := by decide +kernel
theorem dX0_weight_4 : decode cX0_weight 4 = .ok (.aload_n 0, 1) := by decide +kernel
theorem dX0_weight_5 : decode cX0_weight 5 = .ok (.getfield 21, 3) := by decide +kernel
theorem dX0_weight_8 : decode cX0_weight 8 = .ok (.invokestatic 27, 3) := by decide +kernel
theorem dX0_weight_11 : decode cX0_weight 11 = .ok (.ireturn, 1) := by decide +kernel
theorem dX0_isOpenedBy_0 : decode cX0_isOpenedBy 0 = .ok (.iload_n 1, 1) := by decide +kernel
theorem dX0_isOpenedBy_1 : decode cX0_isOpenedBy 1 = .ok (.istore_n 2, 1) := by decide +kernel
theorem dX0_isOpenedBy_2 : decode cX0_isOpenedBy 2 = .ok (.aload_n 0, 1) := by decide +kernel
theorem dX0_isOpenedBy_3 : decode cX0_isOpenedBy 3 = .ok (.getfield 18, 3) := by decide +kernel
theorem dX0_isOpenedBy_6 : decode cX0_isOpenedBy 6 = .ok (.istore_n 3, 1) := by decide +kernel
theorem dX0_isOpenedBy_7 : decode cX0_isOpenedBy 7 = .ok (.aload_n 0, 1) := by decide +kernel
theorem dX0_isOpenedBy_8 : decode cX0_isOpenedBy 8 = .ok (.getfield 21, 3) := by decide +kernel
theorem dX0_isOpenedBy_11 : decode cX0_isOpenedBy 11 = .ok (.istore 4, 2) := by decide +kernel
theorem dX0_isOpenedBy_13 : decode cX0_isOpenedBy 13 = .ok (.iconst 0, 1) := by decide +kernel
theorem dX0_isOpenedBy_14 : decode cX0_isOpenedBy 14 = .ok (.istore 5, 2) := by decide +kernel
theorem dX0_isOpenedBy_16 : decode cX0_isOpenedBy 16 = .ok (.iload 5, 2) := by decide +kernel
theorem dX0_isOpenedBy_18 : decode cX0_isOpenedBy 18 = .ok (.iconst 4, 1) := by decide +kernel
theorem dX0_isOpenedBy_19 : decode cX0_isOpenedBy 19 = .ok (.if_icmp .ge 53, 3) := by decide +kernel
theorem dX0_isOpenedBy_22 : decode cX0_isOpenedBy 22 = .ok (.iload_n 2, 1) := by decide +kernel
theorem dX0_isOpenedBy_23 : decode cX0_isOpenedBy 23 = .ok (.bipush 10, 2) := by decide +kernel
theorem dX0_isOpenedBy_25 : decode cX0_isOpenedBy 25 = .ok (.irem, 1) := by decide +kernel
theorem dX0_isOpenedBy_26 : decode cX0_isOpenedBy 26 = .ok (.istore 6, 2) := by decide +kernel
theorem dX0_isOpenedBy_28 : decode cX0_isOpenedBy 28 = .ok (.iload 6, 2) := by decide +kernel
theorem dX0_isOpenedBy_30 : decode cX0_isOpenedBy 30 = .ok (.iload_n 3, 1) := by decide +kernel
theorem dX0_isOpenedBy_31 : decode cX0_isOpenedBy 31 = .ok (.bipush 10, 2) := by decide +kernel
theorem dX0_isOpenedBy_33 : decode cX0_isOpenedBy 33 = .ok (.irem, 1) := by decide +kernel
theorem dX0_isOpenedBy_34 : decode cX0_isOpenedBy 34 = .ok (.if_icmp .eq 15, 3) := by decide +kernel
theorem dX0_isOpenedBy_37 : decode cX0_isOpenedBy 37 = .ok (.iload 6, 2) := by decide +kernel
theorem dX0_isOpenedBy_39 : decode cX0_isOpenedBy 39 = .ok (.iload 4, 2) := by decide +kernel
theorem dX0_isOpenedBy_41 : decode cX0_isOpenedBy 41 = .ok (.bipush 10, 2) := by decide +kernel
theorem dX0_isOpenedBy_43 : decode cX0_isOpenedBy 43 = .ok (.irem, 1) := by decide +kernel
theorem dX0_isOpenedBy_44 : decode cX0_isOpenedBy 44 = .ok (.if_icmp .eq 5, 3) := by decide +kernel
theorem dX0_isOpenedBy_47 : decode cX0_isOpenedBy 47 = .ok (.iconst 0, 1) := by decide +kernel
theorem dX0_isOpenedBy_48 : decode cX0_isOpenedBy 48 = .ok (.ireturn, 1) := by decide +kernel
theorem dX0_isOpenedBy_49 : decode cX0_isOpenedBy 49 = .ok (.iload_n 2, 1) := by decide +kernel
theorem dX0_isOpenedBy_50 : decode cX0_isOpenedBy 50 = .ok (.bipush 10, 2) := by decide +kernel
theorem dX0_isOpenedBy_52 : decode cX0_isOpenedBy 52 = .ok (.idiv, 1) := by decide +kernel
theorem dX0_isOpenedBy_53 : decode cX0_isOpenedBy 53 = .ok (.istore_n 2, 1) := by decide +kernel
theorem dX0_isOpenedBy_54 : decode cX0_isOpenedBy 54 = .ok (.iload_n 3, 1) := by decide +kernel
theorem dX0_isOpenedBy_55 : decode cX0_isOpenedBy 55 = .ok (.bipush 10, 2) := by decide +kernel
theorem dX0_isOpenedBy_57 : decode cX0_isOpenedBy 57 = .ok (.idiv, 1) := by decide +kernel
theorem dX0_isOpenedBy_58 : decode cX0_isOpenedBy 58 = .ok (.istore_n 3, 1) := by decide +kernel
theorem dX0_isOpenedBy_59 : decode cX0_isOpenedBy 59 = .ok (.iload 4, 2) := by decide +kernel
theorem dX0_isOpenedBy_61 : decode cX0_isOpenedBy 61 = .ok (.bipush 10, 2) := by decide +kernel
theorem dX0_isOpenedBy_63 : decode cX0_isOpenedBy 63 = .ok (.idiv, 1) := by decide +kernel
theorem dX0_isOpenedBy_64 : decode cX0_isOpenedBy 64 = .ok (.istore 4, 2) := by decide +kernel
theorem dX0_isOpenedBy_66 : decode cX0_isOpenedBy 66 = .ok (.iinc 5 1, 3) := by decide +kernel
theorem dX0_isOpenedBy_69 : decode cX0_isOpenedBy 69 = .ok (.goto (-53), 3) := by decide +kernel
theorem dX0_isOpenedBy_72 : decode cX0_isOpenedBy 72 = .ok (.iconst 1, 1) := by decide +kernel
theorem dX0_isOpenedBy_73 : decode cX0_isOpenedBy 73 = .ok (.ireturn, 1) := by decide +kernel
theorem dX0_beyond_0 : decode cX0_beyond 0 = .ok (.iload_n 1, 1) := by decide +kernel
theorem dX0_beyond_1 : decode cX0_beyond 1 = .ok (.aload_n 0, 1) := by decide +kernel
theorem dX0_beyond_2 : decode cX0_beyond 2 = .ok (.getfield 9, 3) := by decide +kernel
theorem dX0_beyond_5 : decode cX0_beyond 5 = .ok (.if_icmp .ne 8, 3) := by decide +kernel
theorem dX0_beyond_8 : decode cX0_beyond 8 = .ok (.aload_n 0, 1) := by decide +kernel
theorem dX0_beyond_9 : decode cX0_beyond 9 = .ok (.getfield 15, 3) := by decide +kernel
theorem dX0_beyond_12 : decode cX0_beyond 12 = .ok (.ireturn, 1) := by decide +kernel
theorem dX0_beyond_13 : decode cX0_beyond 13 = .ok (.iload_n 1, 1) := by decide +kernel
theorem dX0_beyond_14 : decode cX0_beyond 14 = .ok (.aload_n 0, 1) := by decide +kernel
theorem dX0_beyond_15 : decode cX0_beyond 15 = .ok (.getfield 15, 3) := by decide +kernel
theorem dX0_beyond_18 : decode cX0_beyond 18 = .ok (.if_icmp .ne 10, 3) := by decide +kernel
theorem dX0_beyond_21 : decode cX0_beyond 21 = .ok (.aload_n 0, 1) := by decide +kernel
theorem dX0_beyond_22 : decode cX0_beyond 22 = .ok (.getfield 9, 3) := by decide +kernel
theorem dX0_beyond_25 : decode cX0_beyond 25 = .ok (.goto 5, 3) := by decide +kernel
theorem dX0_beyond_28 : decode cX0_beyond 28 = .ok (.bipush (-6), 2) := by decide +kernel
theorem dX0_beyond_30 : decode cX0_beyond 30 = .ok (.ireturn, 1) := by decide +kernel
theorem dX1_init_0 : decode cX1_init 0 = .ok (.aload_n 0, 1) := by decide +kernel
theorem dX1_init_1 : decode cX1_init 1 = .ok (.invokespecial 3, 3) := by decide +kernel
theorem dX1_init_4 : decode cX1_init 4 = .ok (.aload_n 0, 1) := by decide +kernel
theorem dX1_init_5 : decode cX1_init 5 = .ok (.bipush 6, 2) := by decide +kernel
theorem dX1_init_7 : decode cX1_init 7 = .ok (.anewarray 9, 3) := by decide +kernel
theorem dX1_init_10 : decode cX1_init 10 = .ok (.putfield 11, 3) := by decide +kernel
theorem dX1_init_13 : decode cX1_init 13 = .ok (.iconst 0, 1) := by decide +kernel
theorem dX1_init_14 : decode cX1_init 14 = .ok (.istore_n 1, 1) := by decide +kernel
theorem dX1_init_15 : decode cX1_init 15 = .ok (.iload_n 1, 1) := by decide +kernel
theorem dX1_init_16 : decode cX1_init 16 = .ok (.bipush 6, 2) := by decide +kernel
theorem dX1_init_18 : decode cX1_init 18 = .ok (.if_icmp .ge 22, 3) := by decide +kernel
theorem dX1_init_21 : decode cX1_init 21 = .ok (.aload_n 0, 1) := by decide +kernel
theorem dX1_init_22 : decode cX1_init 22 = .ok (.getfield 11, 3) := by decide +kernel
theorem dX1_init_25 : decode cX1_init 25 = .ok (.iload_n 1, 1) := by decide +kernel
theorem dX1_init_26 : decode cX1_init 26 = .ok (.new 9, 3) := by decide +kernel
theorem dX1_init_29 : decode cX1_init 29 = .ok (.dup, 1) := by decide +kernel
theorem dX1_init_30 : decode cX1_init 30 = .ok (.invokespecial 17, 3) := by decide +kernel
theorem dX1_init_33 : decode cX1_init 33 = .ok (.aastore, 1) := by decide +kernel
theorem dX1_init_34 : decode cX1_init 34 = .ok (.iinc 1 1, 3) := by decide +kernel
theorem dX1_init_37 : decode cX1_init 37 = .ok (.goto (-22), 3) := by decide +kernel
theorem dX1_init_40 : decode cX1_init 40 = .ok (.return_, 1) := by decide +kernel
theorem dX1_keep_0 : decode cX1_keep 0 = .ok (.aload_n 0, 1) := by decide +kernel
theorem dX1_keep_1 : decode cX1_keep 1 = .ok (.getfield 18, 3) := by decide +kernel
theorem dX1_keep_4 : decode cX1_keep 4 = .ok (.bipush 6, 2) := by decide +kernel
theorem dX1_keep_6 : decode cX1_keep 6 = .ok (.if_icmp .ge 36, 3) := by decide +kernel
theorem dX1_keep_9 : decode cX1_keep 9 = .ok (.aload_n 0, 1) := by decide +kernel
theorem dX1_keep_10 : decode cX1_keep 10 = .ok (.getfield 11, 3) := by decide +kernel
theorem dX1_keep_13 : decode cX1_keep 13 = .ok (.aload_n 0, 1) := by decide +kernel
theorem dX1_keep_14 : decode cX1_keep 14 = .ok (.getfield 18, 3) := by decide +kernel
theorem dX1_keep_17 : decode cX1_keep 17 = .ok (.aaload, 1) := by decide +kernel
theorem dX1_keep_18 : decode cX1_keep 18 = .ok (.astore_n 2, 1) := by decide +kernel
theorem dX1_keep_19 : decode cX1_keep 19 = .ok (.aload_n 0, 1) := by decide +kernel
theorem dX1_keep_20 : decode cX1_keep 20 = .ok (.getfield 11, 3) := by decide +kernel
theorem dX1_keep_23 : decode cX1_keep 23 = .ok (.aload_n 0, 1) := by decide +kernel
theorem dX1_keep_24 : decode cX1_keep 24 = .ok (.getfield 18, 3) := by decide +kernel
theorem dX1_keep_27 : decode cX1_keep 27 = .ok (.aload_n 1, 1) := by decide +kernel
theorem dX1_keep_28 : decode cX1_keep 28 = .ok (.aastore, 1) := by decide +kernel
theorem dX1_keep_29 : decode cX1_keep 29 = .ok (.aload_n 0, 1) := by decide +kernel
theorem dX1_keep_30 : decode cX1_keep 30 = .ok (.dup, 1) := by decide +kernel
theorem dX1_keep_31 : decode cX1_keep 31 = .ok (.getfield 18, 3) := by decide +kernel
theorem dX1_keep_34 : decode cX1_keep 34 = .ok (.iconst 1, 1) := by decide +kernel
theorem dX1_keep_35 : decode cX1_keep 35 = .ok (.iadd, 1) := by decide +kernel
theorem dX1_keep_36 : decode cX1_keep 36 = .ok (.putfield 18, 3) := by decide +kernel
theorem dX1_keep_39 : decode cX1_keep 39 = .ok (.goto 45, 3) := by decide +kernel
theorem dX1_keep_42 : decode cX1_keep 42 = .ok (.aload_n 0, 1) := by decide +kernel
theorem dX1_keep_43 : decode cX1_keep 43 = .ok (.getfield 11, 3) := by decide +kernel
theorem dX1_keep_46 : decode cX1_keep 46 = .ok (.iconst 0, 1) := by decide +kernel
theorem dX1_keep_47 : decode cX1_keep 47 = .ok (.aaload, 1) := by decide +kernel
theorem dX1_keep_48 : decode cX1_keep 48 = .ok (.astore_n 2, 1) := by decide +kernel
theorem dX1_keep_49 : decode cX1_keep 49 = .ok (.iconst 1, 1) := by decide +kernel
theorem dX1_keep_50 : decode cX1_keep 50 = .ok (.istore_n 3, 1) := by decide +kernel
theorem dX1_keep_51 : decode cX1_keep 51 = .ok (.iload_n 3, 1) := by decide +kernel
theorem dX1_keep_52 : decode cX1_keep 52 = .ok (.bipush 6, 2) := by decide +kernel
theorem dX1_keep_54 : decode cX1_keep 54 = .ok (.if_icmp .ge 23, 3) := by decide +kernel
theorem dX1_keep_57 : decode cX1_keep 57 = .ok (.aload_n 0, 1) := by decide +kernel
theorem dX1_keep_58 : decode cX1_keep 58 = .ok (.getfield 11, 3) := by decide +kernel
theorem dX1_keep_61 : decode cX1_keep 61 = .ok (.iload_n 3, 1) := by decide +kernel
theorem dX1_keep_62 : decode cX1_keep 62 = .ok (.iconst 1, 1) := by decide +kernel
theorem dX1_keep_63 : decode cX1_keep 63 = .ok (.isub, 1) := by decide +kernel
theorem dX1_keep_64 : decode cX1_keep 64 = .ok (.aload_n 0, 1) := by decide +kernel
theorem dX1_keep_65 : decode cX1_keep 65 = .ok (.getfield 11, 3) := by decide +kernel
theorem dX1_keep_68 : decode cX1_keep 68 = .ok (.iload_n 3, 1) := by decide +kernel
theorem dX1_keep_69 : decode cX1_keep 69 = .ok (.aaload, 1) := by decide +kernel
theorem dX1_keep_70 : decode cX1_keep 70 = .ok (.aastore, 1) := by decide +kernel
theorem dX1_keep_71 : decode cX1_keep 71 = .ok (.iinc 3 1, 3) := by decide +kernel
theorem dX1_keep_74 : decode cX1_keep 74 = .ok (.goto (-23), 3) := by decide +kernel
theorem dX1_keep_77 : decode cX1_keep 77 = .ok (.aload_n 0, 1) := by decide +kernel
theorem dX1_keep_78 : decode cX1_keep 78 = .ok (.getfield 11, 3) := by decide +kernel
theorem dX1_keep_81 : decode cX1_keep 81 = .ok (.iconst 5, 1) := by decide +kernel
theorem dX1_keep_82 : decode cX1_keep 82 = .ok (.aload_n 1, 1) := by decide +kernel
theorem dX1_keep_83 : decode cX1_keep 83 = .ok (.aastore, 1) := by decide +kernel
theorem dX1_keep_84 : decode cX1_keep 84 = .ok (.aload_n 2, 1) := by decide +kernel
theorem dX1_keep_85 : decode cX1_keep 85 = .ok (.areturn, 1) := by decide +kernel
theorem dX2_init_0 : decode cX2_init 0 = .ok (.aload_n 0, 1) := by decide +kernel
theorem dX2_init_1 : decode cX2_init 1 = .ok (.invokespecial 3, 3) := by decide +kernel
theorem dX2_init_4 : decode cX2_init 4 = .ok (.aload_n 0, 1) := by decide +kernel
theorem dX2_init_5 : decode cX2_init 5 = .ok (.iconst 3, 1) := by decide +kernel
theorem dX2_init_6 : decode cX2_init 6 = .ok (.newarray .int, 2) := by decide +kernel
theorem dX2_init_8 : decode cX2_init 8 = .ok (.dup, 1) := by decide +kernel
theorem dX2_init_9 : decode cX2_init 9 = .ok (.iconst 0, 1) := by decide +kernel
theorem dX2_init_10 : decode cX2_init 10 = .ok (.iconst 5, 1) := by decide +kernel
theorem dX2_init_11 : decode cX2_init 11 = .ok (.iastore, 1) := by decide +kernel
theorem dX2_init_12 : decode cX2_init 12 = .ok (.dup, 1) := by decide +kernel
theorem dX2_init_13 : decode cX2_init 13 = .ok (.iconst 1, 1) := by decide +kernel
theorem dX2_init_14 : decode cX2_init 14 = .ok (.bipush 10, 2) := by decide +kernel
theorem dX2_init_16 : decode cX2_init 16 = .ok (.iastore, 1) := by decide +kernel
theorem dX2_init_17 : decode cX2_init 17 = .ok (.dup, 1) := by decide +kernel
theorem dX2_init_18 : decode cX2_init 18 = .ok (.iconst 2, 1) := by decide +kernel
theorem dX2_init_19 : decode cX2_init 19 = .ok (.bipush 60, 2) := by decide +kernel
theorem dX2_init_21 : decode cX2_init 21 = .ok (.iastore, 1) := by decide +kernel
theorem dX2_init_22 : decode cX2_init 22 = .ok (.putfield 9, 3) := by decide +kernel
theorem dX2_init_25 : decode cX2_init 25 = .ok (.aload_n 0, 1) := by decide +kernel
theorem dX2_init_26 : decode cX2_init 26 = .ok (.bipush 10, 2) := by decide +kernel
theorem dX2_init_28 : decode cX2_init 28 = .ok (.anewarray 15, 3) := by decide +kernel
theorem dX2_init_31 : decode cX2_init 31 = .ok (.putfield 17, 3) := by decide +kernel
theorem dX2_init_34 : decode cX2_init 34 = .ok (.aload_n 0, 1) := by decide +kernel
theorem dX2_init_35 : decode cX2_init 35 = .ok (.bipush 16, 2) := by decide +kernel
theorem dX2_init_37 : decode cX2_init 37 = .ok (.anewarray 21, 3) := by decide +kernel
theorem dX2_init_40 : decode cX2_init 40 = .ok (.putfield 23, 3) := by decide +kernel
theorem dX2_init_43 : decode cX2_init 43 = .ok (.aload_n 0, 1) := by decide +kernel
theorem dX2_init_44 : decode cX2_init 44 = .ok (.new 27, 3) := by decide +kernel
theorem dX2_init_47 : decode cX2_init 47 = .ok (.dup, 1) := by decide +kernel
theorem dX2_init_48 : decode cX2_init 48 = .ok (.invokespecial 29, 3) := by decide +kernel
theorem dX2_init_51 : decode cX2_init 51 = .ok (.putfield 30, 3) := by decide +kernel
theorem dX2_init_54 : decode cX2_init 54 = .ok (.iconst 0, 1) := by decide +kernel
theorem dX2_init_55 : decode cX2_init 55 = .ok (.istore_n 1, 1) := by decide +kernel
theorem dX2_init_56 : decode cX2_init 56 = .ok (.iload_n 1, 1) := by decide +kernel
theorem dX2_init_57 : decode cX2_init 57 = .ok (.bipush 10, 2) := by decide +kernel
theorem dX2_init_59 : decode cX2_init 59 = .ok (.if_icmp .ge 22, 3) := by decide +kernel
theorem dX2_init_62 : decode cX2_init 62 = .ok (.aload_n 0, 1) := by decide +kernel
theorem dX2_init_63 : decode cX2_init 63 = .ok (.getfield 17, 3) := by decide +kernel
theorem dX2_init_66 : decode cX2_init 66 = .ok (.iload_n 1, 1) := by decide +kernel
theorem dX2_init_67 : decode cX2_init 67 = .ok (.new 15, 3) := by decide +kernel
theorem dX2_init_70 : decode cX2_init 70 = .ok (.dup, 1) := by decide +kernel
theorem dX2_init_71 : decode cX2_init 71 = .ok (.invokespecial 34, 3) := by decide +kernel
theorem dX2_init_74 : decode cX2_init 74 = .ok (.aastore, 1) := by decide +kernel
theorem dX2_init_75 : decode cX2_init 75 = .ok (.iinc 1 1, 3) := by decide +kernel
theorem dX2_init_78 : decode cX2_init 78 = .ok (.goto (-22), 3) := by decide +kernel
theorem dX2_init_81 : decode cX2_init 81 = .ok (.iconst 0, 1) := by decide +kernel
theorem dX2_init_82 : decode cX2_init 82 = .ok (.istore_n 1, 1) := by decide +kernel
theorem dX2_init_83 : decode cX2_init 83 = .ok (.iload_n 1, 1) := by decide +kernel
theorem dX2_init_84 : decode cX2_init 84 = .ok (.bipush 16, 2) := by decide +kernel
theorem dX2_init_86 : decode cX2_init 86 = .ok (.if_icmp .ge 22, 3) := by decide +kernel
theorem dX2_init_89 : decode cX2_init 89 = .ok (.aload_n 0, 1) := by decide +kernel
theorem dX2_init_90 : decode cX2_init 90 = .ok (.getfield 23, 3) := by decide +kernel
theorem dX2_init_93 : decode cX2_init 93 = .ok (.iload_n 1, 1) := by decide +kernel
theorem dX2_init_94 : decode cX2_init 94 = .ok (.new 21, 3) := by decide +kernel
theorem dX2_init_97 : decode cX2_init 97 = .ok (.dup, 1) := by decide +kernel
theorem dX2_init_98 : decode cX2_init 98 = .ok (.invokespecial 35, 3) := by decide +kernel
theorem dX2_init_101 : decode cX2_init 101 = .ok (.aastore, 1) := by decide +kernel
theorem dX2_init_102 : decode cX2_init 102 = .ok (.iinc 1 1, 3) := by decide +kernel
theorem dX2_init_105 : decode cX2_init 105 = .ok (.goto (-22), 3) := by decide +kernel
theorem dX2_init_108 : decode cX2_init 108 = .ok (.return_, 1) := by decide +kernel
theorem dX2_copyFrom_0 : decode cX2_copyFrom 0 = .ok (.iconst 0, 1) := by decide +kernel
theorem dX2_copyFrom_1 : decode cX2_copyFrom 1 = .ok (.istore_n 2, 1) := by decide +kernel
theorem dX2_copyFrom_2 : decode cX2_copyFrom 2 = .ok (.iload_n 2, 1) := by decide +kernel
theorem dX2_copyFrom_3 : decode cX2_copyFrom 3 = .ok (.iconst 2, 1) := by decide +kernel
theorem dX2_copyFrom_4 : decode cX2_copyFrom 4 = .ok (.if_icmp .gt 21, 3) := by decide +kernel
theorem dX2_copyFrom_7 : decode cX2_copyFrom 7 = .ok (.aload_n 0, 1) := by decide +kernel
theorem dX2_copyFrom_8 : decode cX2_copyFrom 8 = .ok (.getfield 9, 3) := by decide +kernel
theorem dX2_copyFrom_11 : decode cX2_copyFrom 11 = .ok (.iload_n 2, 1) := by decide +kernel
theorem dX2_copyFrom_12 : decode cX2_copyFrom 12 = .ok (.aload_n 1, 1) := by decide +kernel
theorem dX2_copyFrom_13 : decode cX2_copyFrom 13 = .ok (.getfield 9, 3) := by decide +kernel
theorem dX2_copyFrom_16 : decode cX2_copyFrom 16 = .ok (.iload_n 2, 1) := by decide +kernel
theorem dX2_copyFrom_17 : decode cX2_copyFrom 17 = .ok (.iaload, 1) := by decide +kernel
theorem dX2_copyFrom_18 : decode cX2_copyFrom 18 = .ok (.iastore, 1) := by decide +kernel
theorem dX2_copyFrom_19 : decode cX2_copyFrom 19 = .ok (.iinc 2 1, 3) := by decide +kernel
theorem dX2_copyFrom_22 : decode cX2_copyFrom 22 = .ok (.goto (-20), 3) := by decide +kernel
theorem dX2_copyFrom_25 : decode cX2_copyFrom 25 = .ok (.iconst 0, 1) := by decide +kernel
theorem dX2_copyFrom_26 : decode cX2_copyFrom 26 = .ok (.istore_n 2, 1) := by decide +kernel
theorem dX2_copyFrom_27 : decode cX2_copyFrom 27 = .ok (.iload_n 2, 1) := by decide +kernel
theorem dX2_copyFrom_28 : decode cX2_copyFrom 28 = .ok (.aload_n 1, 1) := by decide +kernel
theorem dX2_copyFrom_29 : decode cX2_copyFrom 29 = .ok (.getfield 36, 3) := by decide +kernel
theorem dX2_copyFrom_32 : decode cX2_copyFrom 32 = .ok (.if_icmp .ge 24, 3) := by decide +kernel
theorem dX2_copyFrom_35 : decode cX2_copyFrom 35 = .ok (.aload_n 0, 1) := by decide +kernel
theorem dX2_copyFrom_36 : decode cX2_copyFrom 36 = .ok (.getfield 17, 3) := by decide +kernel
theorem dX2_copyFrom_39 : decode cX2_copyFrom 39 = .ok (.iload_n 2, 1) := by decide +kernel
theorem dX2_copyFrom_40 : decode cX2_copyFrom 40 = .ok (.aaload, 1) := by decide +kernel
theorem dX2_copyFrom_41 : decode cX2_copyFrom 41 = .ok (.aload_n 1, 1) := by decide +kernel
theorem dX2_copyFrom_42 : decode cX2_copyFrom 42 = .ok (.getfield 17, 3) := by decide +kernel
theorem dX2_copyFrom_45 : decode cX2_copyFrom 45 = .ok (.iload_n 2, 1) := by decide +kernel
theorem dX2_copyFrom_46 : decode cX2_copyFrom 46 = .ok (.aaload, 1) := by decide +kernel
theorem dX2_copyFrom_47 : decode cX2_copyFrom 47 = .ok (.invokevirtual 40, 3) := by decide +kernel
theorem dX2_copyFrom_50 : decode cX2_copyFrom 50 = .ok (.iinc 2 1, 3) := by decide +kernel
theorem dX2_copyFrom_53 : decode cX2_copyFrom 53 = .ok (.goto (-26), 3) := by decide +kernel
theorem dX2_copyFrom_56 : decode cX2_copyFrom 56 = .ok (.iconst 0, 1) := by decide +kernel
theorem dX2_copyFrom_57 : decode cX2_copyFrom 57 = .ok (.istore_n 2, 1) := by decide +kernel
theorem dX2_copyFrom_58 : decode cX2_copyFrom 58 = .ok (.iload_n 2, 1) := by decide +kernel
theorem dX2_copyFrom_59 : decode cX2_copyFrom 59 = .ok (.aload_n 1, 1) := by decide +kernel
theorem dX2_copyFrom_60 : decode cX2_copyFrom 60 = .ok (.getfield 44, 3) := by decide +kernel
theorem dX2_copyFrom_63 : decode cX2_copyFrom 63 = .ok (.if_icmp .ge 24, 3) := by decide +kernel
theorem dX2_copyFrom_66 : decode cX2_copyFrom 66 = .ok (.aload_n 0, 1) := by decide +kernel
theorem dX2_copyFrom_67 : decode cX2_copyFrom 67 = .ok (.getfield 23, 3) := by decide +kernel
theorem dX2_copyFrom_70 : decode cX2_copyFrom 70 = .ok (.iload_n 2, 1) := by decide +kernel
theorem dX2_copyFrom_71 : decode cX2_copyFrom 71 = .ok (.aaload, 1) := by decide +kernel
theorem dX2_copyFrom_72 : decode cX2_copyFrom 72 = .ok (.aload_n 1, 1) := by decide +kernel
theorem dX2_copyFrom_73 : decode cX2_copyFrom 73 = .ok (.getfield 23, 3) := by decide +kernel
theorem dX2_copyFrom_76 : decode cX2_copyFrom 76 = .ok (.iload_n 2, 1) := by decide +kernel
theorem dX2_copyFrom_77 : decode cX2_copyFrom 77 = .ok (.aaload, 1) := by decide +kernel
theorem dX2_copyFrom_78 : decode cX2_copyFrom 78 = .ok (.invokevirtual 47, 3) := by decide +kernel
theorem dX2_copyFrom_81 : decode cX2_copyFrom 81 = .ok (.iinc 2 1, 3) := by decide +kernel
theorem dX2_copyFrom_84 : decode cX2_copyFrom 84 = .ok (.goto (-26), 3) := by decide +kernel
theorem dX2_copyFrom_87 : decode cX2_copyFrom 87 = .ok (.aload_n 0, 1) := by decide +kernel
theorem dX2_copyFrom_88 : decode cX2_copyFrom 88 = .ok (.getfield 30, 3) := by decide +kernel
theorem dX2_copyFrom_91 : decode cX2_copyFrom 91 = .ok (.aload_n 1, 1) := by decide +kernel
theorem dX2_copyFrom_92 : decode cX2_copyFrom 92 = .ok (.getfield 30, 3) := by decide +kernel
theorem dX2_copyFrom_95 : decode cX2_copyFrom 95 = .ok (.invokevirtual 50, 3) := by decide +kernel
theorem dX2_copyFrom_98 : decode cX2_copyFrom 98 = .ok (.aload_n 0, 1) := by decide +kernel
theorem dX2_copyFrom_99 : decode cX2_copyFrom 99 = .ok (.aload_n 1, 1) := by decide +kernel
theorem dX2_copyFrom_100 : decode cX2_copyFrom 100 = .ok (.getfield 36, 3) := by decide +kernel
theorem dX2_copyFrom_103 : decode cX2_copyFrom 103 = .ok (.putfield 36, 3) := by decide +kernel
theorem dX2_copyFrom_106 : decode cX2_copyFrom 106 = .ok (.aload_n 0, 1) := by decide +kernel
theorem dX2_copyFrom_107 : decode cX2_copyFrom 107 = .ok (.aload_n 1, 1) := by decide +kernel
theorem dX2_copyFrom_108 : decode cX2_copyFrom 108 = .ok (.getfield 44, 3) := by decide +kernel
theorem dX2_copyFrom_111 : decode cX2_copyFrom 111 = .ok (.putfield 44, 3) := by decide +kernel
theorem dX2_copyFrom_114 : decode cX2_copyFrom 114 = .ok (.aload_n 0, 1) := by decide +kernel
theorem dX2_copyFrom_115 : decode cX2_copyFrom 115 = .ok (.aload_n 1, 1) := by decide +kernel
theorem dX2_copyFrom_116 : decode cX2_copyFrom 116 = .ok (.getfield 53, 3) := by decide +kernel
theorem dX2_copyFrom_119 : decode cX2_copyFrom 119 = .ok (.putfield 53, 3) := by decide +kernel
theorem dX2_copyFrom_122 : decode cX2_copyFrom 122 = .ok (.aload_n 0, 1) := by decide +kernel
theorem dX2_copyFrom_123 : decode cX2_copyFrom 123 = .ok (.aload_n 1, 1) := by decide +kernel
theorem dX2_copyFrom_124 : decode cX2_copyFrom 124 = .ok (.getfield 56, 3) := by decide +kernel
theorem dX2_copyFrom_127 : decode cX2_copyFrom 127 = .ok (.putfield 56, 3) := by decide +kernel
theorem dX2_copyFrom_130 : decode cX2_copyFrom 130 = .ok (.aload_n 0, 1) := by decide +kernel
theorem dX2_copyFrom_131 : decode cX2_copyFrom 131 = .ok (.aload_n 1, 1) := by decide +kernel
theorem dX2_copyFrom_132 : decode cX2_copyFrom 132 = .ok (.getfield 59, 3) := by decide +kernel
theorem dX2_copyFrom_135 : decode cX2_copyFrom 135 = .ok (.putfield 59, 3) := by decide +kernel
theorem dX2_copyFrom_138 : decode cX2_copyFrom 138 = .ok (.aload_n 0, 1) := by decide +kernel
theorem dX2_copyFrom_139 : decode cX2_copyFrom 139 = .ok (.aload_n 1, 1) := by decide +kernel
theorem dX2_copyFrom_140 : decode cX2_copyFrom 140 = .ok (.getfield 62, 3) := by decide +kernel
theorem dX2_copyFrom_143 : decode cX2_copyFrom 143 = .ok (.putfield 62, 3) := by decide +kernel
theorem dX2_copyFrom_146 : decode cX2_copyFrom 146 = .ok (.aload_n 0, 1) := by decide +kernel
theorem dX2_copyFrom_147 : decode cX2_copyFrom 147 = .ok (.aload_n 1, 1) := by decide +kernel
theorem dX2_copyFrom_148 : decode cX2_copyFrom 148 = .ok (.getfield 65, 3) := by decide +kernel
theorem dX2_copyFrom_151 : decode cX2_copyFrom 151 = .ok (.putfield 65, 3) := by decide +kernel
theorem dX2_copyFrom_154 : decode cX2_copyFrom 154 = .ok (.return_, 1) := by decide +kernel
theorem dX2_isRoom_0 : decode cX2_isRoom 0 = .ok (.iload_n 0, 1) := by decide +kernel
theorem dX2_isRoom_1 : decode cX2_isRoom 1 = .ok (.ifCond .lt 13, 3) := by decide +kernel
theorem dX2_isRoom_4 : decode cX2_isRoom 4 = .ok (.iload_n 0, 1) := by decide +kernel
theorem dX2_isRoom_5 : decode cX2_isRoom 5 = .ok (.bipush 8, 2) := by decide +kernel
theorem dX2_isRoom_7 : decode cX2_isRoom 7 = .ok (.if_icmp .ge 7, 3) := by decide +kernel
theorem dX2_isRoom_10 : decode cX2_isRoom 10 = .ok (.iconst 1, 1) := by decide +kernel
theorem dX2_isRoom_11 : decode cX2_isRoom 11 = .ok (.goto 4, 3) := by decide +kernel
theorem dX2_isRoom_14 : decode cX2_isRoom 14 = .ok (.iconst 0, 1) := by decide +kernel
theorem dX2_isRoom_15 : decode cX2_isRoom 15 = .ok (.ireturn, 1) := by decide +kernel
theorem dX2_hasDoor_0 : decode cX2_hasDoor 0 = .ok (.iload_n 1, 1) := by decide +kernel
theorem dX2_hasDoor_1 : decode cX2_hasDoor 1 = .ok (.ifCond .lt 15, 3) := by decide +kernel
theorem dX2_hasDoor_4 : decode cX2_hasDoor 4 = .ok (.iload_n 1, 1) := by decide +kernel
theorem dX2_hasDoor_5 : decode cX2_hasDoor 5 = .ok (.aload_n 0, 1) := by decide +kernel
theorem dX2_hasDoor_6 : decode cX2_hasDoor 6 = .ok (.getfield 36, 3) := by decide +kernel
theorem dX2_hasDoor_9 : decode cX2_hasDoor 9 = .ok (.if_icmp .ge 7, 3) := by decide +kernel
theorem dX2_hasDoor_12 : decode cX2_hasDoor 12 = .ok (.iconst 1, 1) := by decide +kernel
theorem dX2_hasDoor_13 : decode cX2_hasDoor 13 = .ok (.goto 4, 3) := by decide +kernel
theorem dX2_hasDoor_16 : decode cX2_hasDoor 16 = .ok (.iconst 0, 1) := by decide +kernel
theorem dX2_hasDoor_17 : decode cX2_hasDoor 17 = .ok (.ireturn, 1) := by decide +kernel
theorem dX2_hasKey_0 : decode cX2_hasKey 0 = .ok (.iload_n 1, 1) := by decide +kernel
theorem dX2_hasKey_1 : decode cX2_hasKey 1 = .ok (.ifCond .lt 15, 3) := by decide +kernel
theorem dX2_hasKey_4 : decode cX2_hasKey 4 = .ok (.iload_n 1, 1) := by decide +kernel
theorem dX2_hasKey_5 : decode cX2_hasKey 5 = .ok (.aload_n 0, 1) := by decide +kernel
theorem dX2_hasKey_6 : decode cX2_hasKey 6 = .ok (.getfield 44, 3) := by decide +kernel
theorem dX2_hasKey_9 : decode cX2_hasKey 9 = .ok (.if_icmp .ge 7, 3) := by decide +kernel
theorem dX2_hasKey_12 : decode cX2_hasKey 12 = .ok (.iconst 1, 1) := by decide +kernel
theorem dX2_hasKey_13 : decode cX2_hasKey 13 = .ok (.goto 4, 3) := by decide +kernel
theorem dX2_hasKey_16 : decode cX2_hasKey 16 = .ok (.iconst 0, 1) := by decide +kernel
theorem dX2_hasKey_17 : decode cX2_hasKey 17 = .ok (.ireturn, 1) := by decide +kernel
theorem dX2_changeSetting_0 : decode cX2_changeSetting 0 = .ok (.iload_n 1, 1) := by decide +kernel
theorem dX2_changeSetting_1 : decode cX2_changeSetting 1 = .ok (.ifCond .lt 8, 3) := by decide +kernel
theorem dX2_changeSetting_4 : decode cX2_changeSetting 4 = .ok (.iload_n 1, 1) := by decide +kernel
theorem dX2_changeSetting_5 : decode cX2_changeSetting 5 = .ok (.iconst 2, 1) := by decide +kernel
theorem dX2_changeSetting_6 : decode cX2_changeSetting 6 = .ok (.if_icmp .le 6, 3) := by decide +kernel
theorem dX2_changeSetting_9 : decode cX2_changeSetting 9 = .ok (.bipush (-2), 2) := by decide +kernel
theorem dX2_changeSetting_11 : decode cX2_changeSetting 11 = .ok (.ireturn, 1) := by decide +kernel
theorem dX2_changeSetting_12 : decode cX2_changeSetting 12 = .ok (.iload_n 2, 1) := by decide +kernel
theorem dX2_changeSetting_13 : decode cX2_changeSetting 13 = .ok (.getstatic 68, 3) := by decide +kernel
theorem dX2_changeSetting_16 : decode cX2_changeSetting 16 = .ok (.iload_n 1, 1) := by decide +kernel
theorem dX2_changeSetting_17 : decode cX2_changeSetting 17 = .ok (.iaload, 1) := by decide +kernel
theorem dX2_changeSetting_18 : decode cX2_changeSetting 18 = .ok (.if_icmp .lt 12, 3) := by decide +kernel
theorem dX2_changeSetting_21 : decode cX2_changeSetting 21 = .ok (.iload_n 2, 1) := by decide +kernel
theorem dX2_changeSetting_22 : decode cX2_changeSetting 22 = .ok (.getstatic 71, 3) := by decide +kernel
theorem dX2_changeSetting_25 : decode cX2_changeSetting 25 = .ok (.iload_n 1, 1) := by decide +kernel
theorem dX2_changeSetting_26 : decode cX2_changeSetting 26 = .ok (.iaload, 1) := by decide +kernel
theorem dX2_changeSetting_27 : decode cX2_changeSetting 27 = .ok (.if_icmp .le 6, 3) := by decide +kernel
theorem dX2_changeSetting_30 : decode cX2_changeSetting 30 = .ok (.bipush (-2), 2) := by decide +kernel
theorem dX2_changeSetting_32 : decode cX2_changeSetting 32 = .ok (.ireturn, 1) := by decide +kernel
theorem dX2_changeSetting_33 : decode cX2_changeSetting 33 = .ok (.aload_n 0, 1) := by decide +kernel
theorem dX2_changeSetting_34 : decode cX2_changeSetting 34 = .ok (.getfield 9, 3) := by decide +kernel
theorem dX2_changeSetting_37 : decode cX2_changeSetting 37 = .ok (.iload_n 1, 1) := by decide +kernel
theorem dX2_changeSetting_38 : decode cX2_changeSetting 38 = .ok (.iaload, 1) := by decide +kernel
theorem dX2_changeSetting_39 : decode cX2_changeSetting 39 = .ok (.istore_n 3, 1) := by decide +kernel
theorem dX2_changeSetting_40 : decode cX2_changeSetting 40 = .ok (.aload_n 0, 1) := by decide +kernel
theorem dX2_changeSetting_41 : decode cX2_changeSetting 41 = .ok (.getfield 9, 3) := by decide +kernel
theorem dX2_changeSetting_44 : decode cX2_changeSetting 44 = .ok (.iload_n 1, 1) := by decide +kernel
theorem dX2_changeSetting_45 : decode cX2_changeSetting 45 = .ok (.iload_n 2, 1) := by decide +kernel
theorem dX2_changeSetting_46 : decode cX2_changeSetting 46 = .ok (.iastore, 1) := by decide +kernel
theorem dX2_changeSetting_47 : decode cX2_changeSetting 47 = .ok (.iload_n 3, 1) := by decide +kernel
theorem dX2_changeSetting_48 : decode cX2_changeSetting 48 = .ok (.ireturn, 1) := by decide +kernel
theorem dX2_bringBrass_0 : decode cX2_bringBrass 0 = .ok (.iload_n 1, 1) := by decide +kernel
theorem dX2_bringBrass_1 : decode cX2_bringBrass 1 = .ok (.iconst 1, 1) := by decide +kernel
theorem dX2_bringBrass_2 : decode cX2_bringBrass 2 = .ok (.if_icmp .lt 10, 3) := by decide +kernel
theorem dX2_bringBrass_5 : decode cX2_bringBrass 5 = .ok (.iload_n 1, 1) := by decide +kernel
theorem dX2_bringBrass_6 : decode cX2_bringBrass 6 = .ok (.sipush 1000, 3) := by decide +kernel
theorem dX2_bringBrass_9 : decode cX2_bringBrass 9 = .ok (.if_icmp .le 6, 3) := by decide +kernel
theorem dX2_bringBrass_12 : decode cX2_bringBrass 12 = .ok (.bipush (-2), 2) := by decide +kernel
theorem dX2_bringBrass_14 : decode cX2_bringBrass 14 = .ok (.ireturn, 1) := by decide +kernel
theorem dX2_bringBrass_15 : decode cX2_bringBrass 15 = .ok (.aload_n 0, 1) := by decide +kernel
theorem dX2_bringBrass_16 : decode cX2_bringBrass 16 = .ok (.dup, 1) := by decide +kernel
theorem dX2_bringBrass_17 : decode cX2_bringBrass 17 = .ok (.getfield 62, 3) := by decide +kernel
theorem dX2_bringBrass_20 : decode cX2_bringBrass 20 = .ok (.iload_n 1, 1) := by decide +kernel
theorem dX2_bringBrass_21 : decode cX2_bringBrass 21 = .ok (.iadd, 1) := by decide +kernel
theorem dX2_bringBrass_22 : decode cX2_bringBrass 22 = .ok (.putfield 62, 3) := by decide +kernel
theorem dX2_bringBrass_25 : decode cX2_bringBrass 25 = .ok (.aload_n 0, 1) := by decide +kernel
theorem dX2_bringBrass_26 : decode cX2_bringBrass 26 = .ok (.dup, 1) := by decide +kernel
theorem dX2_bringBrass_27 : decode cX2_bringBrass 27 = .ok (.getfield 59, 3) := by decide +kernel
theorem dX2_bringBrass_30 : decode cX2_bringBrass 30 = .ok (.iload_n 1, 1) := by decide +kernel
theorem dX2_bringBrass_31 : decode cX2_bringBrass 31 = .ok (.iadd, 1) := by decide +kernel
theorem dX2_bringBrass_32 : decode cX2_bringBrass 32 = .ok (.putfield 59, 3) := by decide +kernel
theorem dX2_bringBrass_35 : decode cX2_bringBrass 35 = .ok (.aload_n 0, 1) := by decide +kernel
theorem dX2_bringBrass_36 : decode cX2_bringBrass 36 = .ok (.getfield 59, 3) := by decide +kernel
theorem dX2_bringBrass_39 : decode cX2_bringBrass 39 = .ok (.ireturn, 1) := by decide +kernel
theorem dX2_makeDoor_0 : decode cX2_makeDoor 0 = .ok (.iload_n 1, 1) := by decide +kernel
theorem dX2_makeDoor_1 : decode cX2_makeDoor 1 = .ok (.invokestatic 74, 3) := by decide +kernel
theorem dX2_makeDoor_4 : decode cX2_makeDoor 4 = .ok (.ifCond .eq 15, 3) := by decide +kernel
theorem dX2_makeDoor_7 : decode cX2_makeDoor 7 = .ok (.iload_n 2, 1) := by decide +kernel
theorem dX2_makeDoor_8 : decode cX2_makeDoor 8 = .ok (.invokestatic 74, 3) := by decide +kernel
theorem dX2_makeDoor_11 : decode cX2_makeDoor 11 = .ok (.ifCond .eq 8, 3) := by decide +kernel
theorem dX2_makeDoor_14 : decode cX2_makeDoor 14 = .ok (.iload_n 1, 1) := by decide +kernel
theorem dX2_makeDoor_15 : decode cX2_makeDoor 15 = .ok (.iload_n 2, 1) := by decide +kernel
theorem dX2_makeDoor_16 : decode cX2_makeDoor 16 = .ok (.if_icmp .ne 6, 3) := by decide +kernel
theorem dX2_makeDoor_19 : decode cX2_makeDoor 19 = .ok (.bipush (-2), 2) := by decide +kernel
theorem dX2_makeDoor_21 : decode cX2_makeDoor 21 = .ok (.ireturn, 1) := by decide +kernel
theorem dX2_makeDoor_22 : decode cX2_makeDoor 22 = .ok (.iload_n 3, 1) := by decide +kernel
theorem dX2_makeDoor_23 : decode cX2_makeDoor 23 = .ok (.invokestatic 78, 3) := by decide +kernel
theorem dX2_makeDoor_26 : decode cX2_makeDoor 26 = .ok (.ifCond .eq 11, 3) := by decide +kernel
theorem dX2_makeDoor_29 : decode cX2_makeDoor 29 = .ok (.iload 4, 2) := by decide +kernel
theorem dX2_makeDoor_31 : decode cX2_makeDoor 31 = .ok (.invokestatic 78, 3) := by decide +kernel
theorem dX2_makeDoor_34 : decode cX2_makeDoor 34 = .ok (.ifCond .ne 6, 3) := by decide +kernel
theorem dX2_makeDoor_37 : decode cX2_makeDoor 37 = .ok (.bipush (-2), 2) := by decide +kernel
theorem dX2_makeDoor_39 : decode cX2_makeDoor 39 = .ok (.ireturn, 1) := by decide +kernel
theorem dX2_makeDoor_40 : decode cX2_makeDoor 40 = .ok (.aload_n 0, 1) := by decide +kernel
theorem dX2_makeDoor_41 : decode cX2_makeDoor 41 = .ok (.getfield 36, 3) := by decide +kernel
theorem dX2_makeDoor_44 : decode cX2_makeDoor 44 = .ok (.bipush 10, 2) := by decide +kernel
theorem dX2_makeDoor_46 : decode cX2_makeDoor 46 = .ok (.if_icmp .lt 6, 3) := by decide +kernel
theorem dX2_makeDoor_49 : decode cX2_makeDoor 49 = .ok (.bipush (-4), 2) := by decide +kernel
theorem dX2_makeDoor_51 : decode cX2_makeDoor 51 = .ok (.ireturn, 1) := by decide +kernel
theorem dX2_makeDoor_52 : decode cX2_makeDoor 52 = .ok (.iload_n 3, 1) := by decide +kernel
theorem dX2_makeDoor_53 : decode cX2_makeDoor 53 = .ok (.iload 4, 2) := by decide +kernel
theorem dX2_makeDoor_55 : decode cX2_makeDoor 55 = .ok (.invokestatic 83, 3) := by decide +kernel
theorem dX2_makeDoor_58 : decode cX2_makeDoor 58 = .ok (.istore 5, 2) := by decide +kernel
theorem dX2_makeDoor_60 : decode cX2_makeDoor 60 = .ok (.iload 5, 2) := by decide +kernel
theorem dX2_makeDoor_62 : decode cX2_makeDoor 62 = .ok (.aload_n 0, 1) := by decide +kernel
theorem dX2_makeDoor_63 : decode cX2_makeDoor 63 = .ok (.getfield 59, 3) := by decide +kernel
theorem dX2_makeDoor_66 : decode cX2_makeDoor 66 = .ok (.if_icmp .le 6, 3) := by decide +kernel
theorem dX2_makeDoor_69 : decode cX2_makeDoor 69 = .ok (.bipush (-5), 2) := by decide +kernel
theorem dX2_makeDoor_71 : decode cX2_makeDoor 71 = .ok (.ireturn, 1) := by decide +kernel
theorem dX2_makeDoor_72 : decode cX2_makeDoor 72 = .ok (.aload_n 0, 1) := by decide +kernel
theorem dX2_makeDoor_73 : decode cX2_makeDoor 73 = .ok (.dup, 1) := by decide +kernel
theorem dX2_makeDoor_74 : decode cX2_makeDoor 74 = .ok (.getfield 59, 3) := by decide +kernel
theorem dX2_makeDoor_77 : decode cX2_makeDoor 77 = .ok (.iload 5, 2) := by decide +kernel
theorem dX2_makeDoor_79 : decode cX2_makeDoor 79 = .ok (.isub, 1) := by decide +kernel
theorem dX2_makeDoor_80 : decode cX2_makeDoor 80 = .ok (.putfield 59, 3) := by decide +kernel
theorem dX2_makeDoor_83 : decode cX2_makeDoor 83 = .ok (.aload_n 0, 1) := by decide +kernel
theorem dX2_makeDoor_84 : decode cX2_makeDoor 84 = .ok (.getfield 17, 3) := by decide +kernel
theorem dX2_makeDoor_87 : decode cX2_makeDoor 87 = .ok (.aload_n 0, 1) := by decide +kernel
theorem dX2_makeDoor_88 : decode cX2_makeDoor 88 = .ok (.getfield 36, 3) := by decide +kernel
theorem dX2_makeDoor_91 : decode cX2_makeDoor 91 = .ok (.aaload, 1) := by decide +kernel
theorem dX2_makeDoor_92 : decode cX2_makeDoor 92 = .ok (.iload_n 1, 1) := by decide +kernel
theorem dX2_makeDoor_93 : decode cX2_makeDoor 93 = .ok (.iload_n 2, 1) := by decide +kernel
theorem dX2_makeDoor_94 : decode cX2_makeDoor 94 = .ok (.iload_n 3, 1) := by decide +kernel
theorem dX2_makeDoor_95 : decode cX2_makeDoor 95 = .ok (.iload 4, 2) := by decide +kernel
theorem dX2_makeDoor_97 : decode cX2_makeDoor 97 = .ok (.invokevirtual 87, 3) := by decide +kernel
theorem dX2_makeDoor_100 : decode cX2_makeDoor 100 = .ok (.aload_n 0, 1) := by decide +kernel
theorem dX2_makeDoor_101 : decode cX2_makeDoor 101 = .ok (.dup, 1) := by decide +kernel
theorem dX2_makeDoor_102 : decode cX2_makeDoor 102 = .ok (.getfield 36, 3) := by decide +kernel
theorem dX2_makeDoor_105 : decode cX2_makeDoor 105 = .ok (.iconst 1, 1) := by decide +kernel
theorem dX2_makeDoor_106 : decode cX2_makeDoor 106 = .ok (.iadd, 1) := by decide +kernel
theorem dX2_makeDoor_107 : decode cX2_makeDoor 107 = .ok (.putfield 36, 3) := by decide +kernel
theorem dX2_makeDoor_110 : decode cX2_makeDoor 110 = .ok (.aload_n 0, 1) := by decide +kernel
theorem dX2_makeDoor_111 : decode cX2_makeDoor 111 = .ok (.getfield 36, 3) := by decide +kernel
theorem dX2_makeDoor_114 : decode cX2_makeDoor 114 = .ok (.iconst 1, 1) := by decide +kernel
theorem dX2_makeDoor_115 : decode cX2_makeDoor 115 = .ok (.isub, 1) := by decide +kernel
theorem dX2_makeDoor_116 : decode cX2_makeDoor 116 = .ok (.ireturn, 1) := by decide +kernel
theorem dX2_cutAnew_0 : decode cX2_cutAnew 0 = .ok (.aload_n 0, 1) := by decide +kernel
theorem dX2_cutAnew_1 : decode cX2_cutAnew 1 = .ok (.iload_n 1, 1) := by decide +kernel
theorem dX2_cutAnew_2 : decode cX2_cutAnew 2 = .ok (.invokevirtual 91, 3) := by decide +kernel
theorem dX2_cutAnew_5 : decode cX2_cutAnew 5 = .ok (.ifCond .ne 5, 3) := by decide +kernel
theorem dX2_cutAnew_8 : decode cX2_cutAnew 8 = .ok (.iconst (-1), 1) := by decide +kernel
theorem dX2_cutAnew_9 : decode cX2_cutAnew 9 = .ok (.ireturn, 1) := by decide +kernel
theorem dX2_cutAnew_10 : decode cX2_cutAnew 10 = .ok (.iload_n 2, 1) := by decide +kernel
theorem dX2_cutAnew_11 : decode cX2_cutAnew 11 = .ok (.invokestatic 78, 3) := by decide +kernel
theorem dX2_cutAnew_14 : decode cX2_cutAnew 14 = .ok (.ifCond .eq 10, 3) := by decide +kernel
theorem dX2_cutAnew_17 : decode cX2_cutAnew 17 = .ok (.iload_n 3, 1) := by decide +kernel
theorem dX2_cutAnew_18 : decode cX2_cutAnew 18 = .ok (.invokestatic 78, 3) := by decide +kernel
theorem dX2_cutAnew_21 : decode cX2_cutAnew 21 = .ok (.ifCond .ne 6, 3) := by decide +kernel
theorem dX2_cutAnew_24 : decode cX2_cutAnew 24 = .ok (.bipush (-2), 2) := by decide +kernel
theorem dX2_cutAnew_26 : decode cX2_cutAnew 26 = .ok (.ireturn, 1) := by decide +kernel
theorem dX2_cutAnew_27 : decode cX2_cutAnew 27 = .ok (.aload_n 0, 1) := by decide +kernel
theorem dX2_cutAnew_28 : decode cX2_cutAnew 28 = .ok (.getfield 17, 3) := by decide +kernel
theorem dX2_cutAnew_31 : decode cX2_cutAnew 31 = .ok (.iload_n 1, 1) := by decide +kernel
theorem dX2_cutAnew_32 : decode cX2_cutAnew 32 = .ok (.aaload, 1) := by decide +kernel
theorem dX2_cutAnew_33 : decode cX2_cutAnew 33 = .ok (.astore 4, 2) := by decide +kernel
theorem dX2_cutAnew_35 : decode cX2_cutAnew 35 = .ok (.aload 4, 2) := by decide +kernel
theorem dX2_cutAnew_37 : decode cX2_cutAnew 37 = .ok (.invokevirtual 94, 3) := by decide +kernel
theorem dX2_cutAnew_40 : decode cX2_cutAnew 40 = .ok (.aload_n 0, 1) := by decide +kernel
theorem dX2_cutAnew_41 : decode cX2_cutAnew 41 = .ok (.getfield 9, 3) := by decide +kernel
theorem dX2_cutAnew_44 : decode cX2_cutAnew 44 = .ok (.iconst 1, 1) := by decide +kernel
theorem dX2_cutAnew_45 : decode cX2_cutAnew 45 = .ok (.iaload, 1) := by decide +kernel
theorem dX2_cutAnew_46 : decode cX2_cutAnew 46 = .ok (.invokestatic 98, 3) := by decide +kernel
theorem dX2_cutAnew_49 : decode cX2_cutAnew 49 = .ok (.istore 5, 2) := by decide +kernel
theorem dX2_cutAnew_51 : decode cX2_cutAnew 51 = .ok (.aload_n 0, 1) := by decide +kernel
theorem dX2_cutAnew_52 : decode cX2_cutAnew 52 = .ok (.getfield 59, 3) := by decide +kernel
theorem dX2_cutAnew_55 : decode cX2_cutAnew 55 = .ok (.aload 4, 2) := by decide +kernel
theorem dX2_cutAnew_57 : decode cX2_cutAnew 57 = .ok (.invokevirtual 94, 3) := by decide +kernel
theorem dX2_cutAnew_60 : decode cX2_cutAnew 60 = .ok (.iadd, 1) := by decide +kernel
theorem dX2_cutAnew_61 : decode cX2_cutAnew 61 = .ok (.iload 5, 2) := by decide +kernel
theorem dX2_cutAnew_63 : decode cX2_cutAnew 63 = .ok (.isub, 1) := by decide +kernel
theorem dX2_cutAnew_64 : decode cX2_cutAnew 64 = .ok (.iload_n 2, 1) := by decide +kernel
theorem dX2_cutAnew_65 : decode cX2_cutAnew 65 = .ok (.iload_n 3, 1) := by decide +kernel
theorem dX2_cutAnew_66 : decode cX2_cutAnew 66 = .ok (.invokestatic 83, 3) := by decide +kernel
theorem dX2_cutAnew_69 : decode cX2_cutAnew 69 = .ok (.isub, 1) := by decide +kernel
theorem dX2_cutAnew_70 : decode cX2_cutAnew 70 = .ok (.istore 6, 2) := by decide +kernel
theorem dX2_cutAnew_72 : decode cX2_cutAnew 72 = .ok (.iload 6, 2) := by decide +kernel
theorem dX2_cutAnew_74 : decode cX2_cutAnew 74 = .ok (.ifCond .ge 6, 3) := by decide +kernel
theorem dX2_cutAnew_77 : decode cX2_cutAnew 77 = .ok (.bipush (-5), 2) := by decide +kernel
theorem dX2_cutAnew_79 : decode cX2_cutAnew 79 = .ok (.ireturn, 1) := by decide +kernel
theorem dX2_cutAnew_80 : decode cX2_cutAnew 80 = .ok (.aload_n 0, 1) := by decide +kernel
theorem dX2_cutAnew_81 : decode cX2_cutAnew 81 = .ok (.iload 6, 2) := by decide +kernel
theorem dX2_cutAnew_83 : decode cX2_cutAnew 83 = .ok (.putfield 59, 3) := by decide +kernel
theorem dX2_cutAnew_86 : decode cX2_cutAnew 86 = .ok (.aload_n 0, 1) := by decide +kernel
theorem dX2_cutAnew_87 : decode cX2_cutAnew 87 = .ok (.dup, 1) := by decide +kernel
theorem dX2_cutAnew_88 : decode cX2_cutAnew 88 = .ok (.getfield 65, 3) := by decide +kernel
theorem dX2_cutAnew_91 : decode cX2_cutAnew 91 = .ok (.iload 5, 2) := by decide +kernel
theorem dX2_cutAnew_93 : decode cX2_cutAnew 93 = .ok (.iadd, 1) := by decide +kernel
theorem dX2_cutAnew_94 : decode cX2_cutAnew 94 = .ok (.putfield 65, 3) := by decide +kernel
theorem dX2_cutAnew_97 : decode cX2_cutAnew 97 = .ok (.aload 4, 2) := by decide +kernel
theorem dX2_cutAnew_99 : decode cX2_cutAnew 99 = .ok (.iload_n 2, 1) := by decide +kernel
theorem dX2_cutAnew_100 : decode cX2_cutAnew 100 = .ok (.putfield 101, 3) := by decide +kernel
theorem dX2_cutAnew_103 : decode cX2_cutAnew 103 = .ok (.aload 4, 2) := by decide +kernel
theorem dX2_cutAnew_105 : decode cX2_cutAnew 105 = .ok (.iload_n 3, 1) := by decide +kernel
theorem dX2_cutAnew_106 : decode cX2_cutAnew 106 = .ok (.putfield 104, 3) := by decide +kernel
theorem dX2_cutAnew_109 : decode cX2_cutAnew 109 = .ok (.aload 4, 2) := by decide +kernel
theorem dX2_cutAnew_111 : decode cX2_cutAnew 111 = .ok (.dup, 1) := by decide +kernel
theorem dX2_cutAnew_112 : decode cX2_cutAnew 112 = .ok (.getfield 107, 3) := by decide +kernel
theorem dX2_cutAnew_115 : decode cX2_cutAnew 115 = .ok (.iconst 1, 1) := by decide +kernel
theorem dX2_cutAnew_116 : decode cX2_cutAnew 116 = .ok (.iadd, 1) := by decide +kernel
theorem dX2_cutAnew_117 : decode cX2_cutAnew 117 = .ok (.putfield 107, 3) := by decide +kernel
theorem dX2_cutAnew_120 : decode cX2_cutAnew 120 = .ok (.aload_n 0, 1) := by decide +kernel
theorem dX2_cutAnew_121 : decode cX2_cutAnew 121 = .ok (.getfield 59, 3) := by decide +kernel
theorem dX2_cutAnew_124 : decode cX2_cutAnew 124 = .ok (.ireturn, 1) := by decide +kernel
theorem dX2_makeKey_0 : decode cX2_makeKey 0 = .ok (.iload_n 1, 1) := by decide +kernel
theorem dX2_makeKey_1 : decode cX2_makeKey 1 = .ok (.invokestatic 78, 3) := by decide +kernel
theorem dX2_makeKey_4 : decode cX2_makeKey 4 = .ok (.ifCond .eq 10, 3) := by decide +kernel
theorem dX2_makeKey_7 : decode cX2_makeKey 7 = .ok (.iload_n 2, 1) := by decide +kernel
theorem dX2_makeKey_8 : decode cX2_makeKey 8 = .ok (.invokestatic 74, 3) := by decide +kernel
theorem dX2_makeKey_11 : decode cX2_makeKey 11 = .ok (.ifCond .ne 6, 3) := by decide +kernel
theorem dX2_makeKey_14 : decode cX2_makeKey 14 = .ok (.bipush (-2), 2) := by decide +kernel
theorem dX2_makeKey_16 : decode cX2_makeKey 16 = .ok (.ireturn, 1) := by decide +kernel
theorem dX2_makeKey_17 : decode cX2_makeKey 17 = .ok (.aload_n 0, 1) := by decide +kernel
theorem dX2_makeKey_18 : decode cX2_makeKey 18 = .ok (.getfield 44, 3) := by decide +kernel
theorem dX2_makeKey_21 : decode cX2_makeKey 21 = .ok (.bipush 16, 2) := by decide +kernel
theorem dX2_makeKey_23 : decode cX2_makeKey 23 = .ok (.if_icmp .lt 6, 3) := by decide +kernel
theorem dX2_makeKey_26 : decode cX2_makeKey 26 = .ok (.bipush (-4), 2) := by decide +kernel
theorem dX2_makeKey_28 : decode cX2_makeKey 28 = .ok (.ireturn, 1) := by decide +kernel
theorem dX2_makeKey_29 : decode cX2_makeKey 29 = .ok (.iload_n 1, 1) := by decide +kernel
theorem dX2_makeKey_30 : decode cX2_makeKey 30 = .ok (.aload_n 0, 1) := by decide +kernel
theorem dX2_makeKey_31 : decode cX2_makeKey 31 = .ok (.getfield 9, 3) := by decide +kernel
theorem dX2_makeKey_34 : decode cX2_makeKey 34 = .ok (.iconst 0, 1) := by decide +kernel
theorem dX2_makeKey_35 : decode cX2_makeKey 35 = .ok (.iaload, 1) := by decide +kernel
theorem dX2_makeKey_36 : decode cX2_makeKey 36 = .ok (.invokestatic 110, 3) := by decide +kernel
theorem dX2_makeKey_39 : decode cX2_makeKey 39 = .ok (.ifCond .ne 6, 3) := by decide +kernel
theorem dX2_makeKey_42 : decode cX2_makeKey 42 = .ok (.bipush (-5), 2) := by decide +kernel
theorem dX2_makeKey_44 : decode cX2_makeKey 44 = .ok (.ireturn, 1) := by decide +kernel
theorem dX2_makeKey_45 : decode cX2_makeKey 45 = .ok (.iload_n 1, 1) := by decide +kernel
theorem dX2_makeKey_46 : decode cX2_makeKey 46 = .ok (.invokestatic 114, 3) := by decide +kernel
theorem dX2_makeKey_49 : decode cX2_makeKey 49 = .ok (.istore_n 3, 1) := by decide +kernel
theorem dX2_makeKey_50 : decode cX2_makeKey 50 = .ok (.aload_n 0, 1) := by decide +kernel
theorem dX2_makeKey_51 : decode cX2_makeKey 51 = .ok (.getfield 23, 3) := by decide +kernel
theorem dX2_makeKey_54 : decode cX2_makeKey 54 = .ok (.aload_n 0, 1) := by decide +kernel
theorem dX2_makeKey_55 : decode cX2_makeKey 55 = .ok (.getfield 44, 3) := by decide +kernel
theorem dX2_makeKey_58 : decode cX2_makeKey 58 = .ok (.aaload, 1) := by decide +kernel
theorem dX2_makeKey_59 : decode cX2_makeKey 59 = .ok (.astore 4, 2) := by decide +kernel
theorem dX2_makeKey_61 : decode cX2_makeKey 61 = .ok (.aload 4, 2) := by decide +kernel
theorem dX2_makeKey_63 : decode cX2_makeKey 63 = .ok (.iload_n 1, 1) := by decide +kernel
theorem dX2_makeKey_64 : decode cX2_makeKey 64 = .ok (.putfield 118, 3) := by decide +kernel
theorem dX2_makeKey_67 : decode cX2_makeKey 67 = .ok (.aload 4, 2) := by decide +kernel
theorem dX2_makeKey_69 : decode cX2_makeKey 69 = .ok (.aload_n 0, 1) := by decide +kernel
theorem dX2_makeKey_70 : decode cX2_makeKey 70 = .ok (.getfield 9, 3) := by decide +kernel
theorem dX2_makeKey_73 : decode cX2_makeKey 73 = .ok (.iconst 2, 1) := by decide +kernel
theorem dX2_makeKey_74 : decode cX2_makeKey 74 = .ok (.iaload, 1) := by decide +kernel
theorem dX2_makeKey_75 : decode cX2_makeKey 75 = .ok (.iload_n 3, 1) := by decide +kernel
theorem dX2_makeKey_76 : decode cX2_makeKey 76 = .ok (.isub, 1) := by decide +kernel
theorem dX2_makeKey_77 : decode cX2_makeKey 77 = .ok (.putfield 121, 3) := by decide +kernel
theorem dX2_makeKey_80 : decode cX2_makeKey 80 = .ok (.aload 4, 2) := by decide +kernel
theorem dX2_makeKey_82 : decode cX2_makeKey 82 = .ok (.iload_n 2, 1) := by decide +kernel
theorem dX2_makeKey_83 : decode cX2_makeKey 83 = .ok (.putfield 123, 3) := by decide +kernel
theorem dX2_makeKey_86 : decode cX2_makeKey 86 = .ok (.aload_n 0, 1) := by decide +kernel
theorem dX2_makeKey_87 : decode cX2_makeKey 87 = .ok (.dup, 1) := by decide +kernel
theorem dX2_makeKey_88 : decode cX2_makeKey 88 = .ok (.getfield 62, 3) := by decide +kernel
theorem dX2_makeKey_91 : decode cX2_makeKey 91 = .ok (.aload_n 0, 1) := by decide +kernel
theorem dX2_makeKey_92 : decode cX2_makeKey 92 = .ok (.getfield 9, 3) := by decide +kernel
theorem dX2_makeKey_95 : decode cX2_makeKey 95 = .ok (.iconst 2, 1) := by decide +kernel
theorem dX2_makeKey_96 : decode cX2_makeKey 96 = .ok (.iaload, 1) := by decide +kernel
theorem dX2_makeKey_97 : decode cX2_makeKey 97 = .ok (.iadd, 1) := by decide +kernel
theorem dX2_makeKey_98 : decode cX2_makeKey 98 = .ok (.putfield 62, 3) := by decide +kernel
theorem dX2_makeKey_101 : decode cX2_makeKey 101 = .ok (.aload_n 0, 1) := by decide +kernel
theorem dX2_makeKey_102 : decode cX2_makeKey 102 = .ok (.dup, 1) := by decide +kernel
theorem dX2_makeKey_103 : decode cX2_makeKey 103 = .ok (.getfield 59, 3) := by decide +kernel
theorem dX2_makeKey_106 : decode cX2_makeKey 106 = .ok (.iload_n 3, 1) := by decide +kernel
theorem dX2_makeKey_107 : decode cX2_makeKey 107 = .ok (.iadd, 1) := by decide +kernel
theorem dX2_makeKey_108 : decode cX2_makeKey 108 = .ok (.putfield 59, 3) := by decide +kernel
theorem dX2_makeKey_111 : decode cX2_makeKey 111 = .ok (.aload_n 0, 1) := by decide +kernel
theorem dX2_makeKey_112 : decode cX2_makeKey 112 = .ok (.dup, 1) := by decide +kernel
theorem dX2_makeKey_113 : decode cX2_makeKey 113 = .ok (.getfield 44, 3) := by decide +kernel
theorem dX2_makeKey_116 : decode cX2_makeKey 116 = .ok (.iconst 1, 1) := by decide +kernel
theorem dX2_makeKey_117 : decode cX2_makeKey 117 = .ok (.iadd, 1) := by decide +kernel
theorem dX2_makeKey_118 : decode cX2_makeKey 118 = .ok (.putfield 44, 3) := by decide +kernel
theorem dX2_makeKey_121 : decode cX2_makeKey 121 = .ok (.aload_n 0, 1) := by decide +kernel
theorem dX2_makeKey_122 : decode cX2_makeKey 122 = .ok (.getfield 44, 3) := by decide +kernel
theorem dX2_makeKey_125 : decode cX2_makeKey 125 = .ok (.iconst 1, 1) := by decide +kernel
theorem dX2_makeKey_126 : decode cX2_makeKey 126 = .ok (.isub, 1) := by decide +kernel
theorem dX2_makeKey_127 : decode cX2_makeKey 127 = .ok (.ireturn, 1) := by decide +kernel
theorem dX2_meltKey_0 : decode cX2_meltKey 0 = .ok (.aload_n 0, 1) := by decide +kernel
theorem dX2_meltKey_1 : decode cX2_meltKey 1 = .ok (.iload_n 1, 1) := by decide +kernel
theorem dX2_meltKey_2 : decode cX2_meltKey 2 = .ok (.invokevirtual 126, 3) := by decide +kernel
theorem dX2_meltKey_5 : decode cX2_meltKey 5 = .ok (.ifCond .ne 5, 3) := by decide +kernel
theorem dX2_meltKey_8 : decode cX2_meltKey 8 = .ok (.iconst (-1), 1) := by decide +kernel
theorem dX2_meltKey_9 : decode cX2_meltKey 9 = .ok (.ireturn, 1) := by decide +kernel
theorem dX2_meltKey_10 : decode cX2_meltKey 10 = .ok (.aload_n 0, 1) := by decide +kernel
theorem dX2_meltKey_11 : decode cX2_meltKey 11 = .ok (.getfield 23, 3) := by decide +kernel
theorem dX2_meltKey_14 : decode cX2_meltKey 14 = .ok (.iload_n 1, 1) := by decide +kernel
theorem dX2_meltKey_15 : decode cX2_meltKey 15 = .ok (.aaload, 1) := by decide +kernel
theorem dX2_meltKey_16 : decode cX2_meltKey 16 = .ok (.astore_n 2, 1) := by decide +kernel
theorem dX2_meltKey_17 : decode cX2_meltKey 17 = .ok (.aload_n 2, 1) := by decide +kernel
theorem dX2_meltKey_18 : decode cX2_meltKey 18 = .ok (.getfield 123, 3) := by decide +kernel
theorem dX2_meltKey_21 : decode cX2_meltKey 21 = .ok (.bipush 9, 2) := by decide +kernel
theorem dX2_meltKey_23 : decode cX2_meltKey 23 = .ok (.if_icmp .ne 6, 3) := by decide +kernel
theorem dX2_meltKey_26 : decode cX2_meltKey 26 = .ok (.bipush (-5), 2) := by decide +kernel
theorem dX2_meltKey_28 : decode cX2_meltKey 28 = .ok (.ireturn, 1) := by decide +kernel
theorem dX2_meltKey_29 : decode cX2_meltKey 29 = .ok (.aload_n 2, 1) := by decide +kernel
theorem dX2_meltKey_30 : decode cX2_meltKey 30 = .ok (.getfield 121, 3) := by decide +kernel
theorem dX2_meltKey_33 : decode cX2_meltKey 33 = .ok (.aload_n 0, 1) := by decide +kernel
theorem dX2_meltKey_34 : decode cX2_meltKey 34 = .ok (.getfield 9, 3) := by decide +kernel
theorem dX2_meltKey_37 : decode cX2_meltKey 37 = .ok (.iconst 1, 1) := by decide +kernel
theorem dX2_meltKey_38 : decode cX2_meltKey 38 = .ok (.iaload, 1) := by decide +kernel
theorem dX2_meltKey_39 : decode cX2_meltKey 39 = .ok (.invokestatic 98, 3) := by decide +kernel
theorem dX2_meltKey_42 : decode cX2_meltKey 42 = .ok (.istore_n 3, 1) := by decide +kernel
theorem dX2_meltKey_43 : decode cX2_meltKey 43 = .ok (.aload_n 0, 1) := by decide +kernel
theorem dX2_meltKey_44 : decode cX2_meltKey 44 = .ok (.dup, 1) := by decide +kernel
theorem dX2_meltKey_45 : decode cX2_meltKey 45 = .ok (.getfield 65, 3) := by decide +kernel
theorem dX2_meltKey_48 : decode cX2_meltKey 48 = .ok (.iload_n 3, 1) := by decide +kernel
theorem dX2_meltKey_49 : decode cX2_meltKey 49 = .ok (.iadd, 1) := by decide +kernel
theorem dX2_meltKey_50 : decode cX2_meltKey 50 = .ok (.putfield 65, 3) := by decide +kernel
theorem dX2_meltKey_53 : decode cX2_meltKey 53 = .ok (.aload_n 0, 1) := by decide +kernel
theorem dX2_meltKey_54 : decode cX2_meltKey 54 = .ok (.dup, 1) := by decide +kernel
theorem dX2_meltKey_55 : decode cX2_meltKey 55 = .ok (.getfield 59, 3) := by decide +kernel
theorem dX2_meltKey_58 : decode cX2_meltKey 58 = .ok (.aload_n 2, 1) := by decide +kernel
theorem dX2_meltKey_59 : decode cX2_meltKey 59 = .ok (.getfield 121, 3) := by decide +kernel
theorem dX2_meltKey_62 : decode cX2_meltKey 62 = .ok (.iload_n 3, 1) := by decide +kernel
theorem dX2_meltKey_63 : decode cX2_meltKey 63 = .ok (.isub, 1) := by decide +kernel
theorem dX2_meltKey_64 : decode cX2_meltKey 64 = .ok (.iadd, 1) := by decide +kernel
theorem dX2_meltKey_65 : decode cX2_meltKey 65 = .ok (.putfield 59, 3) := by decide +kernel
theorem dX2_meltKey_68 : decode cX2_meltKey 68 = .ok (.aload_n 2, 1) := by decide +kernel
theorem dX2_meltKey_69 : decode cX2_meltKey 69 = .ok (.iconst 0, 1) := by decide +kernel
theorem dX2_meltKey_70 : decode cX2_meltKey 70 = .ok (.putfield 121, 3) := by decide +kernel
theorem dX2_meltKey_73 : decode cX2_meltKey 73 = .ok (.aload_n 2, 1) := by decide +kernel
theorem dX2_meltKey_74 : decode cX2_meltKey 74 = .ok (.bipush 9, 2) := by decide +kernel
theorem dX2_meltKey_76 : decode cX2_meltKey 76 = .ok (.putfield 123, 3) := by decide +kernel
theorem dX2_meltKey_79 : decode cX2_meltKey 79 = .ok (.aload_n 0, 1) := by decide +kernel
theorem dX2_meltKey_80 : decode cX2_meltKey 80 = .ok (.getfield 59, 3) := by decide +kernel
theorem dX2_meltKey_83 : decode cX2_meltKey 83 = .ok (.ireturn, 1) := by decide +kernel
theorem dX2_takeKey_0 : decode cX2_takeKey 0 = .ok (.aload_n 0, 1) := by decide +kernel
theorem dX2_takeKey_1 : decode cX2_takeKey 1 = .ok (.iload_n 1, 1) := by decide +kernel
theorem dX2_takeKey_2 : decode cX2_takeKey 2 = .ok (.aload_n 0, 1) := by decide +kernel
theorem dX2_takeKey_3 : decode cX2_takeKey 3 = .ok (.getfield 53, 3) := by decide +kernel
theorem dX2_takeKey_6 : decode cX2_takeKey 6 = .ok (.bipush 8, 2) := by decide +kernel
theorem dX2_takeKey_8 : decode cX2_takeKey 8 = .ok (.invokevirtual 129, 3) := by decide +kernel
theorem dX2_takeKey_11 : decode cX2_takeKey 11 = .ok (.ireturn, 1) := by decide +kernel
theorem dX2_layKeyDown_0 : decode cX2_layKeyDown 0 = .ok (.aload_n 0, 1) := by decide +kernel
theorem dX2_layKeyDown_1 : decode cX2_layKeyDown 1 = .ok (.iload_n 1, 1) := by decide +kernel
theorem dX2_layKeyDown_2 : decode cX2_layKeyDown 2 = .ok (.bipush 8, 2) := by decide +kernel
theorem dX2_layKeyDown_4 : decode cX2_layKeyDown 4 = .ok (.aload_n 0, 1) := by decide +kernel
theorem dX2_layKeyDown_5 : decode cX2_layKeyDown 5 = .ok (.getfield 53, 3) := by decide +kernel
theorem dX2_layKeyDown_8 : decode cX2_layKeyDown 8 = .ok (.invokevirtual 129, 3) := by decide +kernel
theorem dX2_layKeyDown_11 : decode cX2_layKeyDown 11 = .ok (.ireturn, 1) := by decide +kernel
theorem dX2_moveKey_0 : decode cX2_moveKey 0 = .ok (.aload_n 0, 1) := by decide +kernel
theorem dX2_moveKey_1 : decode cX2_moveKey 1 = .ok (.iload_n 1, 1) := by decide +kernel
theorem dX2_moveKey_2 : decode cX2_moveKey 2 = .ok (.invokevirtual 126, 3) := by decide +kernel
theorem dX2_moveKey_5 : decode cX2_moveKey 5 = .ok (.ifCond .ne 5, 3) := by decide +kernel
theorem dX2_moveKey_8 : decode cX2_moveKey 8 = .ok (.iconst (-1), 1) := by decide +kernel
theorem dX2_moveKey_9 : decode cX2_moveKey 9 = .ok (.ireturn, 1) := by decide +kernel
theorem dX2_moveKey_10 : decode cX2_moveKey 10 = .ok (.aload_n 0, 1) := by decide +kernel
theorem dX2_moveKey_11 : decode cX2_moveKey 11 = .ok (.getfield 23, 3) := by decide +kernel
theorem dX2_moveKey_14 : decode cX2_moveKey 14 = .ok (.iload_n 1, 1) := by decide +kernel
theorem dX2_moveKey_15 : decode cX2_moveKey 15 = .ok (.aaload, 1) := by decide +kernel
theorem dX2_moveKey_16 : decode cX2_moveKey 16 = .ok (.getfield 123, 3) := by decide +kernel
theorem dX2_moveKey_19 : decode cX2_moveKey 19 = .ok (.iload_n 2, 1) := by decide +kernel
theorem dX2_moveKey_20 : decode cX2_moveKey 20 = .ok (.if_icmp .eq 6, 3) := by decide +kernel
theorem dX2_moveKey_23 : decode cX2_moveKey 23 = .ok (.bipush (-5), 2) := by decide +kernel
theorem dX2_moveKey_25 : decode cX2_moveKey 25 = .ok (.ireturn, 1) := by decide +kernel
theorem dX2_moveKey_26 : decode cX2_moveKey 26 = .ok (.aload_n 0, 1) := by decide +kernel
theorem dX2_moveKey_27 : decode cX2_moveKey 27 = .ok (.getfield 23, 3) := by decide +kernel
theorem dX2_moveKey_30 : decode cX2_moveKey 30 = .ok (.iload_n 1, 1) := by decide +kernel
theorem dX2_moveKey_31 : decode cX2_moveKey 31 = .ok (.aaload, 1) := by decide +kernel
theorem dX2_moveKey_32 : decode cX2_moveKey 32 = .ok (.iload_n 3, 1) := by decide +kernel
theorem dX2_moveKey_33 : decode cX2_moveKey 33 = .ok (.putfield 123, 3) := by decide +kernel
theorem dX2_moveKey_36 : decode cX2_moveKey 36 = .ok (.aload_n 0, 1) := by decide +kernel
theorem dX2_moveKey_37 : decode cX2_moveKey 37 = .ok (.bipush 8, 2) := by decide +kernel
theorem dX2_moveKey_39 : decode cX2_moveKey 39 = .ok (.invokevirtual 133, 3) := by decide +kernel
theorem dX2_moveKey_42 : decode cX2_moveKey 42 = .ok (.ireturn, 1) := by decide +kernel
theorem dX2_walkThrough_0 : decode cX2_walkThrough 0 = .ok (.aload_n 0, 1) := by decide +kernel
theorem dX2_walkThrough_1 : decode cX2_walkThrough 1 = .ok (.iload_n 1, 1) := by decide +kernel
theorem dX2_walkThrough_2 : decode cX2_walkThrough 2 = .ok (.invokevirtual 91, 3) := by decide +kernel
theorem dX2_walkThrough_5 : decode cX2_walkThrough 5 = .ok (.ifCond .ne 5, 3) := by decide +kernel
theorem dX2_walkThrough_8 : decode cX2_walkThrough 8 = .ok (.iconst (-1), 1) := by decide +kernel
theorem dX2_walkThrough_9 : decode cX2_walkThrough 9 = .ok (.ireturn, 1) := by decide +kernel
theorem dX2_walkThrough_10 : decode cX2_walkThrough 10 = .ok (.aload_n 0, 1) := by decide +kernel
theorem dX2_walkThrough_11 : decode cX2_walkThrough 11 = .ok (.getfield 17, 3) := by decide +kernel
theorem dX2_walkThrough_14 : decode cX2_walkThrough 14 = .ok (.iload_n 1, 1) := by decide +kernel
theorem dX2_walkThrough_15 : decode cX2_walkThrough 15 = .ok (.aaload, 1) := by decide +kernel
theorem dX2_walkThrough_16 : decode cX2_walkThrough 16 = .ok (.aload_n 0, 1) := by decide +kernel
theorem dX2_walkThrough_17 : decode cX2_walkThrough 17 = .ok (.getfield 53, 3) := by decide +kernel
theorem dX2_walkThrough_20 : decode cX2_walkThrough 20 = .ok (.invokevirtual 136, 3) := by decide +kernel
theorem dX2_walkThrough_23 : decode cX2_walkThrough 23 = .ok (.istore_n 2, 1) := by decide +kernel
theorem dX2_walkThrough_24 : decode cX2_walkThrough 24 = .ok (.iload_n 2, 1) := by decide +kernel
theorem dX2_walkThrough_25 : decode cX2_walkThrough 25 = .ok (.bipush (-6), 2) := by decide +kernel
theorem dX2_walkThrough_27 : decode cX2_walkThrough 27 = .ok (.if_icmp .eq 18, 3) := by decide +kernel
theorem dX2_walkThrough_30 : decode cX2_walkThrough 30 = .ok (.aload_n 0, 1) := by decide +kernel
theorem dX2_walkThrough_31 : decode cX2_walkThrough 31 = .ok (.iload_n 1, 1) := by decide +kernel
theorem dX2_walkThrough_32 : decode cX2_walkThrough 32 = .ok (.invokevirtual 139, 3) := by decide +kernel
theorem dX2_walkThrough_35 : decode cX2_walkThrough 35 = .ok (.aload_n 0, 1) := by decide +kernel
theorem dX2_walkThrough_36 : decode cX2_walkThrough 36 = .ok (.bipush 8, 2) := by decide +kernel
theorem dX2_walkThrough_38 : decode cX2_walkThrough 38 = .ok (.invokevirtual 133, 3) := by decide +kernel
theorem dX2_walkThrough_41 : decode cX2_walkThrough 41 = .ok (.iand, 1) := by decide +kernel
theorem dX2_walkThrough_42 : decode cX2_walkThrough 42 = .ok (.ifCond .ne 6, 3) := by decide +kernel
theorem dX2_walkThrough_45 : decode cX2_walkThrough 45 = .ok (.bipush (-5), 2) := by decide +kernel
theorem dX2_walkThrough_47 : decode cX2_walkThrough 47 = .ok (.ireturn, 1) := by decide +kernel
theorem dX2_walkThrough_48 : decode cX2_walkThrough 48 = .ok (.aload_n 0, 1) := by decide +kernel
theorem dX2_walkThrough_49 : decode cX2_walkThrough 49 = .ok (.iload_n 2, 1) := by decide +kernel
theorem dX2_walkThrough_50 : decode cX2_walkThrough 50 = .ok (.putfield 53, 3) := by decide +kernel
theorem dX2_walkThrough_53 : decode cX2_walkThrough 53 = .ok (.aload_n 0, 1) := by decide +kernel
theorem dX2_walkThrough_54 : decode cX2_walkThrough 54 = .ok (.dup, 1) := by decide +kernel
theorem dX2_walkThrough_55 : decode cX2_walkThrough 55 = .ok (.getfield 56, 3) := by decide +kernel
theorem dX2_walkThrough_58 : decode cX2_walkThrough 58 = .ok (.iconst 1, 1) := by decide +kernel
theorem dX2_walkThrough_59 : decode cX2_walkThrough 59 = .ok (.iadd, 1) := by decide +kernel
theorem dX2_walkThrough_60 : decode cX2_walkThrough 60 = .ok (.putfield 56, 3) := by decide +kernel
theorem dX2_walkThrough_63 : decode cX2_walkThrough 63 = .ok (.aload_n 0, 1) := by decide +kernel
theorem dX2_walkThrough_64 : decode cX2_walkThrough 64 = .ok (.getfield 53, 3) := by decide +kernel
theorem dX2_walkThrough_67 : decode cX2_walkThrough 67 = .ok (.ireturn, 1) := by decide +kernel
theorem dX2_planCut_0 : decode cX2_planCut 0 = .ok (.aload_n 0, 1) := by decide +kernel
theorem dX2_planCut_1 : decode cX2_planCut 1 = .ok (.iload_n 1, 1) := by decide +kernel
theorem dX2_planCut_2 : decode cX2_planCut 2 = .ok (.invokevirtual 91, 3) := by decide +kernel
theorem dX2_planCut_5 : decode cX2_planCut 5 = .ok (.ifCond .ne 5, 3) := by decide +kernel
theorem dX2_planCut_8 : decode cX2_planCut 8 = .ok (.iconst (-1), 1) := by decide +kernel
theorem dX2_planCut_9 : decode cX2_planCut 9 = .ok (.ireturn, 1) := by decide +kernel
theorem dX2_planCut_10 : decode cX2_planCut 10 = .ok (.iload_n 2, 1) := by decide +kernel
theorem dX2_planCut_11 : decode cX2_planCut 11 = .ok (.invokestatic 78, 3) := by decide +kernel
theorem dX2_planCut_14 : decode cX2_planCut 14 = .ok (.ifCond .eq 10, 3) := by decide +kernel
theorem dX2_planCut_17 : decode cX2_planCut 17 = .ok (.iload_n 3, 1) := by decide +kernel
theorem dX2_planCut_18 : decode cX2_planCut 18 = .ok (.invokestatic 78, 3) := by decide +kernel
theorem dX2_planCut_21 : decode cX2_planCut 21 = .ok (.ifCond .ne 6, 3) := by decide +kernel
theorem dX2_planCut_24 : decode cX2_planCut 24 = .ok (.bipush (-2), 2) := by decide +kernel
theorem dX2_planCut_26 : decode cX2_planCut 26 = .ok (.ireturn, 1) := by decide +kernel
theorem dX2_planCut_27 : decode cX2_planCut 27 = .ok (.aload_n 0, 1) := by decide +kernel
theorem dX2_planCut_28 : decode cX2_planCut 28 = .ok (.getfield 30, 3) := by decide +kernel
theorem dX2_planCut_31 : decode cX2_planCut 31 = .ok (.getfield 142, 3) := by decide +kernel
theorem dX2_planCut_34 : decode cX2_planCut 34 = .ok (.bipush 6, 2) := by decide +kernel
theorem dX2_planCut_36 : decode cX2_planCut 36 = .ok (.if_icmp .lt 6, 3) := by decide +kernel
theorem dX2_planCut_39 : decode cX2_planCut 39 = .ok (.bipush (-4), 2) := by decide +kernel
theorem dX2_planCut_41 : decode cX2_planCut 41 = .ok (.ireturn, 1) := by decide +kernel
theorem dX2_planCut_42 : decode cX2_planCut 42 = .ok (.aload_n 0, 1) := by decide +kernel
theorem dX2_planCut_43 : decode cX2_planCut 43 = .ok (.getfield 30, 3) := by decide +kernel
theorem dX2_planCut_46 : decode cX2_planCut 46 = .ok (.iload_n 1, 1) := by decide +kernel
theorem dX2_planCut_47 : decode cX2_planCut 47 = .ok (.invokevirtual 145, 3) := by decide +kernel
theorem dX2_planCut_50 : decode cX2_planCut 50 = .ok (.bipush (-6), 2) := by decide +kernel
theorem dX2_planCut_52 : decode cX2_planCut 52 = .ok (.if_icmp .eq 6, 3) := by decide +kernel
theorem dX2_planCut_55 : decode cX2_planCut 55 = .ok (.bipush (-5), 2) := by decide +kernel
theorem dX2_planCut_57 : decode cX2_planCut 57 = .ok (.ireturn, 1) := by decide +kernel
theorem dX2_planCut_58 : decode cX2_planCut 58 = .ok (.aload_n 0, 1) := by decide +kernel
theorem dX2_planCut_59 : decode cX2_planCut 59 = .ok (.getfield 30, 3) := by decide +kernel
theorem dX2_planCut_62 : decode cX2_planCut 62 = .ok (.getfield 148, 3) := by decide +kernel
theorem dX2_planCut_65 : decode cX2_planCut 65 = .ok (.aload_n 0, 1) := by decide +kernel
theorem dX2_planCut_66 : decode cX2_planCut 66 = .ok (.getfield 30, 3) := by decide +kernel
theorem dX2_planCut_69 : decode cX2_planCut 69 = .ok (.getfield 142, 3) := by decide +kernel
theorem dX2_planCut_72 : decode cX2_planCut 72 = .ok (.iload_n 1, 1) := by decide +kernel
theorem dX2_planCut_73 : decode cX2_planCut 73 = .ok (.iastore, 1) := by decide +kernel
theorem dX2_planCut_74 : decode cX2_planCut 74 = .ok (.aload_n 0, 1) := by decide +kernel
theorem dX2_planCut_75 : decode cX2_planCut 75 = .ok (.getfield 30, 3) := by decide +kernel
theorem dX2_planCut_78 : decode cX2_planCut 78 = .ok (.getfield 150, 3) := by decide +kernel
theorem dX2_planCut_81 : decode cX2_planCut 81 = .ok (.aload_n 0, 1) := by decide +kernel
theorem dX2_planCut_82 : decode cX2_planCut 82 = .ok (.getfield 30, 3) := by decide +kernel
theorem dX2_planCut_85 : decode cX2_planCut 85 = .ok (.getfield 142, 3) := by decide +kernel
theorem dX2_planCut_88 : decode cX2_planCut 88 = .ok (.iload_n 2, 1) := by decide +kernel
theorem dX2_planCut_89 : decode cX2_planCut 89 = .ok (.iastore, 1) := by decide +kernel
theorem dX2_planCut_90 : decode cX2_planCut 90 = .ok (.aload_n 0, 1) := by decide +kernel
theorem dX2_planCut_91 : decode cX2_planCut 91 = .ok (.getfield 30, 3) := by decide +kernel
theorem dX2_planCut_94 : decode cX2_planCut 94 = .ok (.getfield 153, 3) := by decide +kernel
theorem dX2_planCut_97 : decode cX2_planCut 97 = .ok (.aload_n 0, 1) := by decide +kernel
theorem dX2_planCut_98 : decode cX2_planCut 98 = .ok (.getfield 30, 3) := by decide +kernel
theorem dX2_planCut_101 : decode cX2_planCut 101 = .ok (.getfield 142, 3) := by decide +kernel
theorem dX2_planCut_104 : decode cX2_planCut 104 = .ok (.iload_n 3, 1) := by decide +kernel
theorem dX2_planCut_105 : decode cX2_planCut 105 = .ok (.iastore, 1) := by decide +kernel
theorem dX2_planCut_106 : decode cX2_planCut 106 = .ok (.aload_n 0, 1) := by decide +kernel
theorem dX2_planCut_107 : decode cX2_planCut 107 = .ok (.getfield 30, 3) := by decide +kernel
theorem dX2_planCut_110 : decode cX2_planCut 110 = .ok (.dup, 1) := by decide +kernel
theorem dX2_planCut_111 : decode cX2_planCut 111 = .ok (.getfield 142, 3) := by decide +kernel
theorem dX2_planCut_114 : decode cX2_planCut 114 = .ok (.iconst 1, 1) := by decide +kernel
theorem dX2_planCut_115 : decode cX2_planCut 115 = .ok (.iadd, 1) := by decide +kernel
theorem dX2_planCut_116 : decode cX2_planCut 116 = .ok (.putfield 142, 3) := by decide +kernel
theorem dX2_planCut_119 : decode cX2_planCut 119 = .ok (.aload_n 0, 1) := by decide +kernel
theorem dX2_planCut_120 : decode cX2_planCut 120 = .ok (.getfield 30, 3) := by decide +kernel
theorem dX2_planCut_123 : decode cX2_planCut 123 = .ok (.getfield 142, 3) := by decide +kernel
theorem dX2_planCut_126 : decode cX2_planCut 126 = .ok (.ireturn, 1) := by decide +kernel
theorem dX2_emptyPlan_0 : decode cX2_emptyPlan 0 = .ok (.aload_n 0, 1) := by decide +kernel
theorem dX2_emptyPlan_1 : decode cX2_emptyPlan 1 = .ok (.getfield 30, 3) := by decide +kernel
theorem dX2_emptyPlan_4 : decode cX2_emptyPlan 4 = .ok (.getfield 142, 3) := by decide +kernel
theorem dX2_emptyPlan_7 : decode cX2_emptyPlan 7 = .ok (.istore_n 1, 1) := by decide +kernel
theorem dX2_emptyPlan_8 : decode cX2_emptyPlan 8 = .ok (.aload_n 0, 1) := by decide +kernel
theorem dX2_emptyPlan_9 : decode cX2_emptyPlan 9 = .ok (.getfield 30, 3) := by decide +kernel
theorem dX2_emptyPlan_12 : decode cX2_emptyPlan 12 = .ok (.iconst 0, 1) := by decide +kernel
theorem dX2_emptyPlan_13 : decode cX2_emptyPlan 13 = .ok (.putfield 142, 3) := by decide +kernel
theorem dX2_emptyPlan_16 : decode cX2_emptyPlan 16 = .ok (.iload_n 1, 1) := by decide +kernel
theorem dX2_emptyPlan_17 : decode cX2_emptyPlan 17 = .ok (.ireturn, 1) := by decide +kernel
theorem dX2_carryPlanned_0 : decode cX2_carryPlanned 0 = .ok (.iload_n 1, 1) := by decide +kernel
theorem dX2_carryPlanned_1 : decode cX2_carryPlanned 1 = .ok (.ifCond .lt 14, 3) := by decide +kernel
theorem dX2_carryPlanned_4 : decode cX2_carryPlanned 4 = .ok (.iload_n 1, 1) := by decide +kernel
theorem dX2_carryPlanned_5 : decode cX2_carryPlanned 5 = .ok (.aload_n 0, 1) := by decide +kernel
theorem dX2_carryPlanned_6 : decode cX2_carryPlanned 6 = .ok (.getfield 30, 3) := by decide +kernel
theorem dX2_carryPlanned_9 : decode cX2_carryPlanned 9 = .ok (.getfield 142, 3) := by decide +kernel
theorem dX2_carryPlanned_12 : decode cX2_carryPlanned 12 = .ok (.if_icmp .lt 5, 3) := by decide +kernel
theorem dX2_carryPlanned_15 : decode cX2_carryPlanned 15 = .ok (.iconst (-1), 1) := by decide +kernel
theorem dX2_carryPlanned_16 : decode cX2_carryPlanned 16 = .ok (.ireturn, 1) := by decide +kernel
theorem dX2_carryPlanned_17 : decode cX2_carryPlanned 17 = .ok (.aload_n 0, 1) := by decide +kernel
theorem dX2_carryPlanned_18 : decode cX2_carryPlanned 18 = .ok (.aload_n 0, 1) := by decide +kernel
theorem dX2_carryPlanned_19 : decode cX2_carryPlanned 19 = .ok (.getfield 30, 3) := by decide +kernel
theorem dX2_carryPlanned_22 : decode cX2_carryPlanned 22 = .ok (.getfield 148, 3) := by decide +kernel
theorem dX2_carryPlanned_25 : decode cX2_carryPlanned 25 = .ok (.iload_n 1, 1) := by decide +kernel
theorem dX2_carryPlanned_26 : decode cX2_carryPlanned 26 = .ok (.iaload, 1) := by decide +kernel
theorem dX2_carryPlanned_27 : decode cX2_carryPlanned 27 = .ok (.aload_n 0, 1) := by decide +kernel
theorem dX2_carryPlanned_28 : decode cX2_carryPlanned 28 = .ok (.getfield 30, 3) := by decide +kernel
theorem dX2_carryPlanned_31 : decode cX2_carryPlanned 31 = .ok (.getfield 150, 3) := by decide +kernel
theorem dX2_carryPlanned_34 : decode cX2_carryPlanned 34 = .ok (.iload_n 1, 1) := by decide +kernel
theorem dX2_carryPlanned_35 : decode cX2_carryPlanned 35 = .ok (.iaload, 1) := by decide +kernel
theorem dX2_carryPlanned_36 : decode cX2_carryPlanned 36 = .ok (.aload_n 0, 1) := by decide +kernel
theorem dX2_carryPlanned_37 : decode cX2_carryPlanned 37 = .ok (.getfield 30, 3) := by decide +kernel
theorem dX2_carryPlanned_40 : decode cX2_carryPlanned 40 = .ok (.getfield 153, 3) := by decide +kernel
theorem dX2_carryPlanned_43 : decode cX2_carryPlanned 43 = .ok (.iload_n 1, 1) := by decide +kernel
theorem dX2_carryPlanned_44 : decode cX2_carryPlanned 44 = .ok (.iaload, 1) := by decide +kernel
theorem dX2_carryPlanned_45 : decode cX2_carryPlanned 45 = .ok (.invokevirtual 156, 3) := by decide +kernel
theorem dX2_carryPlanned_48 : decode cX2_carryPlanned 48 = .ok (.ireturn, 1) := by decide +kernel
theorem dX2_keysAt_0 : decode cX2_keysAt 0 = .ok (.iconst 0, 1) := by decide +kernel
theorem dX2_keysAt_1 : decode cX2_keysAt 1 = .ok (.istore_n 2, 1) := by decide +kernel
theorem dX2_keysAt_2 : decode cX2_keysAt 2 = .ok (.iconst 0, 1) := by decide +kernel
theorem dX2_keysAt_3 : decode cX2_keysAt 3 = .ok (.istore_n 3, 1) := by decide +kernel
theorem dX2_keysAt_4 : decode cX2_keysAt 4 = .ok (.iload_n 3, 1) := by decide +kernel
theorem dX2_keysAt_5 : decode cX2_keysAt 5 = .ok (.aload_n 0, 1) := by decide +kernel
theorem dX2_keysAt_6 : decode cX2_keysAt 6 = .ok (.getfield 44, 3) := by decide +kernel
theorem dX2_keysAt_9 : decode cX2_keysAt 9 = .ok (.if_icmp .ge 28, 3) := by decide +kernel
theorem dX2_keysAt_12 : decode cX2_keysAt 12 = .ok (.aload_n 0, 1) := by decide +kernel
theorem dX2_keysAt_13 : decode cX2_keysAt 13 = .ok (.getfield 23, 3) := by decide +kernel
theorem dX2_keysAt_16 : decode cX2_keysAt 16 = .ok (.iload_n 3, 1) := by decide +kernel
theorem dX2_keysAt_17 : decode cX2_keysAt 17 = .ok (.aaload, 1) := by decide +kernel
theorem dX2_keysAt_18 : decode cX2_keysAt 18 = .ok (.getfield 123, 3) := by decide +kernel
theorem dX2_keysAt_21 : decode cX2_keysAt 21 = .ok (.iload_n 1, 1) := by decide +kernel
theorem dX2_keysAt_22 : decode cX2_keysAt 22 = .ok (.if_icmp .ne 9, 3) := by decide +kernel
theorem dX2_keysAt_25 : decode cX2_keysAt 25 = .ok (.iload_n 2, 1) := by decide +kernel
theorem dX2_keysAt_26 : decode cX2_keysAt 26 = .ok (.iconst 1, 1) := by decide +kernel
theorem dX2_keysAt_27 : decode cX2_keysAt 27 = .ok (.iload_n 3, 1) := by decide +kernel
theorem dX2_keysAt_28 : decode cX2_keysAt 28 = .ok (.ishl, 1) := by decide +kernel
theorem dX2_keysAt_29 : decode cX2_keysAt 29 = .ok (.ior, 1) := by decide +kernel
theorem dX2_keysAt_30 : decode cX2_keysAt 30 = .ok (.istore_n 2, 1) := by decide +kernel
theorem dX2_keysAt_31 : decode cX2_keysAt 31 = .ok (.iinc 3 1, 3) := by decide +kernel
theorem dX2_keysAt_34 : decode cX2_keysAt 34 = .ok (.goto (-30), 3) := by decide +kernel
theorem dX2_keysAt_37 : decode cX2_keysAt 37 = .ok (.iload_n 2, 1) := by decide +kernel
theorem dX2_keysAt_38 : decode cX2_keysAt 38 = .ok (.ireturn, 1) := by decide +kernel
theorem dX2_keysOpening_0 : decode cX2_keysOpening 0 = .ok (.iconst 0, 1) := by decide +kernel
theorem dX2_keysOpening_1 : decode cX2_keysOpening 1 = .ok (.istore_n 2, 1) := by decide +kernel
theorem dX2_keysOpening_2 : decode cX2_keysOpening 2 = .ok (.iconst 0, 1) := by decide +kernel
theorem dX2_keysOpening_3 : decode cX2_keysOpening 3 = .ok (.istore_n 3, 1) := by decide +kernel
theorem dX2_keysOpening_4 : decode cX2_keysOpening 4 = .ok (.iload_n 3, 1) := by decide +kernel
theorem dX2_keysOpening_5 : decode cX2_keysOpening 5 = .ok (.aload_n 0, 1) := by decide +kernel
theorem dX2_keysOpening_6 : decode cX2_keysOpening 6 = .ok (.getfield 44, 3) := by decide +kernel
theorem dX2_keysOpening_9 : decode cX2_keysOpening 9 = .ok (.if_icmp .ge 50, 3) := by decide +kernel
theorem dX2_keysOpening_12 : decode cX2_keysOpening 12 = .ok (.aload_n 0, 1) := by decide +kernel
theorem dX2_keysOpening_13 : decode cX2_keysOpening 13 = .ok (.getfield 23, 3) := by decide +kernel
theorem dX2_keysOpening_16 : decode cX2_keysOpening 16 = .ok (.iload_n 3, 1) := by decide +kernel
theorem dX2_keysOpening_17 : decode cX2_keysOpening 17 = .ok (.aaload, 1) := by decide +kernel
theorem dX2_keysOpening_18 : decode cX2_keysOpening 18 = .ok (.getfield 123, 3) := by decide +kernel
theorem dX2_keysOpening_21 : decode cX2_keysOpening 21 = .ok (.bipush 9, 2) := by decide +kernel
theorem dX2_keysOpening_23 : decode cX2_keysOpening 23 = .ok (.if_icmp .eq 30, 3) := by decide +kernel
theorem dX2_keysOpening_26 : decode cX2_keysOpening 26 = .ok (.aload_n 0, 1) := by decide +kernel
theorem dX2_keysOpening_27 : decode cX2_keysOpening 27 = .ok (.getfield 17, 3) := by decide +kernel
theorem dX2_keysOpening_30 : decode cX2_keysOpening 30 = .ok (.iload_n 1, 1) := by decide +kernel
theorem dX2_keysOpening_31 : decode cX2_keysOpening 31 = .ok (.aaload, 1) := by decide +kernel
theorem dX2_keysOpening_32 : decode cX2_keysOpening 32 = .ok (.aload_n 0, 1) := by decide +kernel
theorem dX2_keysOpening_33 : decode cX2_keysOpening 33 = .ok (.getfield 23, 3) := by decide +kernel
theorem dX2_keysOpening_36 : decode cX2_keysOpening 36 = .ok (.iload_n 3, 1) := by decide +kernel
theorem dX2_keysOpening_37 : decode cX2_keysOpening 37 = .ok (.aaload, 1) := by decide +kernel
theorem dX2_keysOpening_38 : decode cX2_keysOpening 38 = .ok (.getfield 118, 3) := by decide +kernel
theorem dX2_keysOpening_41 : decode cX2_keysOpening 41 = .ok (.invokevirtual 185, 3) := by decide +kernel
theorem dX2_keysOpening_44 : decode cX2_keysOpening 44 = .ok (.ifCond .eq 9, 3) := by decide +kernel
theorem dX2_keysOpening_47 : decode cX2_keysOpening 47 = .ok (.iload_n 2, 1) := by decide +kernel
theorem dX2_keysOpening_48 : decode cX2_keysOpening 48 = .ok (.iconst 1, 1) := by decide +kernel
theorem dX2_keysOpening_49 : decode cX2_keysOpening 49 = .ok (.iload_n 3, 1) := by decide +kernel
theorem dX2_keysOpening_50 : decode cX2_keysOpening 50 = .ok (.ishl, 1) := by decide +kernel
theorem dX2_keysOpening_51 : decode cX2_keysOpening 51 = .ok (.ior, 1) := by decide +kernel
theorem dX2_keysOpening_52 : decode cX2_keysOpening 52 = .ok (.istore_n 2, 1) := by decide +kernel
theorem dX2_keysOpening_53 : decode cX2_keysOpening 53 = .ok (.iinc 3 1, 3) := by decide +kernel
theorem dX2_keysOpening_56 : decode cX2_keysOpening 56 = .ok (.goto (-52), 3) := by decide +kernel
theorem dX2_keysOpening_59 : decode cX2_keysOpening 59 = .ok (.iload_n 2, 1) := by decide +kernel
theorem dX2_keysOpening_60 : decode cX2_keysOpening 60 = .ok (.ireturn, 1) := by decide +kernel
theorem dX2_doorsOpenedBy_0 : decode cX2_doorsOpenedBy 0 = .ok (.iconst 0, 1) := by decide +kernel
theorem dX2_doorsOpenedBy_1 : decode cX2_doorsOpenedBy 1 = .ok (.istore_n 2, 1) := by decide +kernel
theorem dX2_doorsOpenedBy_2 : decode cX2_doorsOpenedBy 2 = .ok (.iconst 0, 1) := by decide +kernel
theorem dX2_doorsOpenedBy_3 : decode cX2_doorsOpenedBy 3 = .ok (.istore_n 3, 1) := by decide +kernel
theorem dX2_doorsOpenedBy_4 : decode cX2_doorsOpenedBy 4 = .ok (.iload_n 3, 1) := by decide +kernel
theorem dX2_doorsOpenedBy_5 : decode cX2_doorsOpenedBy 5 = .ok (.aload_n 0, 1) := by decide +kernel
theorem dX2_doorsOpenedBy_6 : decode cX2_doorsOpenedBy 6 = .ok (.getfield 36, 3) := by decide +kernel
theorem dX2_doorsOpenedBy_9 : decode cX2_doorsOpenedBy 9 = .ok (.if_icmp .ge 28, 3) := by decide +kernel
theorem dX2_doorsOpenedBy_12 : decode cX2_doorsOpenedBy 12 = .ok (.aload_n 0, 1) := by decide +kernel
theorem dX2_doorsOpenedBy_13 : decode cX2_doorsOpenedBy 13 = .ok (.getfield 17, 3) := by decide +kernel
theorem dX2_doorsOpenedBy_16 : decode cX2_doorsOpenedBy 16 = .ok (.iload_n 3, 1) := by decide +kernel
theorem dX2_doorsOpenedBy_17 : decode cX2_doorsOpenedBy 17 = .ok (.aaload, 1) := by decide +kernel
theorem dX2_doorsOpenedBy_18 : decode cX2_doorsOpenedBy 18 = .ok (.iload_n 1, 1) := by decide +kernel
theorem dX2_doorsOpenedBy_19 : decode cX2_doorsOpenedBy 19 = .ok (.invokevirtual 185, 3) := by decide +kernel
theorem dX2_doorsOpenedBy_22 : decode cX2_doorsOpenedBy 22 = .ok (.ifCond .eq 9, 3) := by decide +kernel
theorem dX2_doorsOpenedBy_25 : decode cX2_doorsOpenedBy 25 = .ok (.iload_n 2, 1) := by decide +kernel
theorem dX2_doorsOpenedBy_26 : decode cX2_doorsOpenedBy 26 = .ok (.iconst 1, 1) := by decide +kernel
theorem dX2_doorsOpenedBy_27 : decode cX2_doorsOpenedBy 27 = .ok (.iload_n 3, 1) := by decide +kernel
theorem dX2_doorsOpenedBy_28 : decode cX2_doorsOpenedBy 28 = .ok (.ishl, 1) := by decide +kernel
theorem dX2_doorsOpenedBy_29 : decode cX2_doorsOpenedBy 29 = .ok (.ior, 1) := by decide +kernel
theorem dX2_doorsOpenedBy_30 : decode cX2_doorsOpenedBy 30 = .ok (.istore_n 2, 1) := by decide +kernel
theorem dX2_doorsOpenedBy_31 : decode cX2_doorsOpenedBy 31 = .ok (.iinc 3 1, 3) := by decide +kernel
theorem dX2_doorsOpenedBy_34 : decode cX2_doorsOpenedBy 34 = .ok (.goto (-30), 3) := by decide +kernel
theorem dX2_doorsOpenedBy_37 : decode cX2_doorsOpenedBy 37 = .ok (.iload_n 2, 1) := by decide +kernel
theorem dX2_doorsOpenedBy_38 : decode cX2_doorsOpenedBy 38 = .ok (.ireturn, 1) := by decide +kernel
theorem dX2_brassInLocks_0 : decode cX2_brassInLocks 0 = .ok (.iconst 0, 1) := by decide +kernel
theorem dX2_brassInLocks_1 : decode cX2_brassInLocks 1 = .ok (.istore_n 1, 1) := by decide +kernel
theorem dX2_brassInLocks_2 : decode cX2_brassInLocks 2 = .ok (.iconst 0, 1) := by decide +kernel
theorem dX2_brassInLocks_3 : decode cX2_brassInLocks 3 = .ok (.istore_n 2, 1) := by decide +kernel
theorem dX2_brassInLocks_4 : decode cX2_brassInLocks 4 = .ok (.iload_n 2, 1) := by decide +kernel
theorem dX2_brassInLocks_5 : decode cX2_brassInLocks 5 = .ok (.aload_n 0, 1) := by decide +kernel
theorem dX2_brassInLocks_6 : decode cX2_brassInLocks 6 = .ok (.getfield 36, 3) := by decide +kernel
theorem dX2_brassInLocks_9 : decode cX2_brassInLocks 9 = .ok (.if_icmp .ge 21, 3) := by decide +kernel
theorem dX2_brassInLocks_12 : decode cX2_brassInLocks 12 = .ok (.iload_n 1, 1) := by decide +kernel
theorem dX2_brassInLocks_13 : decode cX2_brassInLocks 13 = .ok (.aload_n 0, 1) := by decide +kernel
theorem dX2_brassInLocks_14 : decode cX2_brassInLocks 14 = .ok (.getfield 17, 3) := by decide +kernel
theorem dX2_brassInLocks_17 : decode cX2_brassInLocks 17 = .ok (.iload_n 2, 1) := by decide +kernel
theorem dX2_brassInLocks_18 : decode cX2_brassInLocks 18 = .ok (.aaload, 1) := by decide +kernel
theorem dX2_brassInLocks_19 : decode cX2_brassInLocks 19 = .ok (.invokevirtual 94, 3) := by decide +kernel
theorem dX2_brassInLocks_22 : decode cX2_brassInLocks 22 = .ok (.iadd, 1) := by decide +kernel
theorem dX2_brassInLocks_23 : decode cX2_brassInLocks 23 = .ok (.istore_n 1, 1) := by decide +kernel
theorem dX2_brassInLocks_24 : decode cX2_brassInLocks 24 = .ok (.iinc 2 1, 3) := by decide +kernel
theorem dX2_brassInLocks_27 : decode cX2_brassInLocks 27 = .ok (.goto (-23), 3) := by decide +kernel
theorem dX2_brassInLocks_30 : decode cX2_brassInLocks 30 = .ok (.iload_n 1, 1) := by decide +kernel
theorem dX2_brassInLocks_31 : decode cX2_brassInLocks 31 = .ok (.ireturn, 1) := by decide +kernel
theorem dX2_brassInKeys_0 : decode cX2_brassInKeys 0 = .ok (.iconst 0, 1) := by decide +kernel
theorem dX2_brassInKeys_1 : decode cX2_brassInKeys 1 = .ok (.istore_n 1, 1) := by decide +kernel
theorem dX2_brassInKeys_2 : decode cX2_brassInKeys 2 = .ok (.iconst 0, 1) := by decide +kernel
theorem dX2_brassInKeys_3 : decode cX2_brassInKeys 3 = .ok (.istore_n 2, 1) := by decide +kernel
theorem dX2_brassInKeys_4 : decode cX2_brassInKeys 4 = .ok (.iload_n 2, 1) := by decide +kernel
theorem dX2_brassInKeys_5 : decode cX2_brassInKeys 5 = .ok (.aload_n 0, 1) := by decide +kernel
theorem dX2_brassInKeys_6 : decode cX2_brassInKeys 6 = .ok (.getfield 44, 3) := by decide +kernel
theorem dX2_brassInKeys_9 : decode cX2_brassInKeys 9 = .ok (.if_icmp .ge 21, 3) := by decide +kernel
theorem dX2_brassInKeys_12 : decode cX2_brassInKeys 12 = .ok (.iload_n 1, 1) := by decide +kernel
theorem dX2_brassInKeys_13 : decode cX2_brassInKeys 13 = .ok (.aload_n 0, 1) := by decide +kernel
theorem dX2_brassInKeys_14 : decode cX2_brassInKeys 14 = .ok (.getfield 23, 3) := by decide +kernel
theorem dX2_brassInKeys_17 : decode cX2_brassInKeys 17 = .ok (.iload_n 2, 1) := by decide +kernel
theorem dX2_brassInKeys_18 : decode cX2_brassInKeys 18 = .ok (.aaload, 1) := by decide +kernel
theorem dX2_brassInKeys_19 : decode cX2_brassInKeys 19 = .ok (.getfield 121, 3) := by decide +kernel
theorem dX2_brassInKeys_22 : decode cX2_brassInKeys 22 = .ok (.iadd, 1) := by decide +kernel
theorem dX2_brassInKeys_23 : decode cX2_brassInKeys 23 = .ok (.istore_n 1, 1) := by decide +kernel
theorem dX2_brassInKeys_24 : decode cX2_brassInKeys 24 = .ok (.iinc 2 1, 3) := by decide +kernel
theorem dX2_brassInKeys_27 : decode cX2_brassInKeys 27 = .ok (.goto (-23), 3) := by decide +kernel
theorem dX2_brassInKeys_30 : decode cX2_brassInKeys 30 = .ok (.iload_n 1, 1) := by decide +kernel
theorem dX2_brassInKeys_31 : decode cX2_brassInKeys 31 = .ok (.ireturn, 1) := by decide +kernel
theorem dX2_aboutDoor_0 : decode cX2_aboutDoor 0 = .ok (.aload_n 0, 1) := by decide +kernel
theorem dX2_aboutDoor_1 : decode cX2_aboutDoor 1 = .ok (.iload_n 1, 1) := by decide +kernel
theorem dX2_aboutDoor_2 : decode cX2_aboutDoor 2 = .ok (.invokevirtual 91, 3) := by decide +kernel
theorem dX2_aboutDoor_5 : decode cX2_aboutDoor 5 = .ok (.ifCond .ne 5, 3) := by decide +kernel
theorem dX2_aboutDoor_8 : decode cX2_aboutDoor 8 = .ok (.iconst (-1), 1) := by decide +kernel
theorem dX2_aboutDoor_9 : decode cX2_aboutDoor 9 = .ok (.ireturn, 1) := by decide +kernel
theorem dX2_aboutDoor_10 : decode cX2_aboutDoor 10 = .ok (.aload_n 0, 1) := by decide +kernel
theorem dX2_aboutDoor_11 : decode cX2_aboutDoor 11 = .ok (.getfield 17, 3) := by decide +kernel
theorem dX2_aboutDoor_14 : decode cX2_aboutDoor 14 = .ok (.iload_n 1, 1) := by decide +kernel
theorem dX2_aboutDoor_15 : decode cX2_aboutDoor 15 = .ok (.aaload, 1) := by decide +kernel
theorem dX2_aboutDoor_16 : decode cX2_aboutDoor 16 = .ok (.astore_n 3, 1) := by decide +kernel
theorem dX2_aboutDoor_17 : decode cX2_aboutDoor 17 = .ok (.iload_n 2, 1) := by decide +kernel
theorem dX2_aboutDoor_18 : decode cX2_aboutDoor 18 = .ok (.tableswitch 91 0 7 #[46, 51, 56, 61, 66, 71, 76, 82], 46) := by decide +kernel
theorem dX2_aboutDoor_64 : decode cX2_aboutDoor 64 = .ok (.aload_n 3, 1) := by decide +kernel
theorem dX2_aboutDoor_65 : decode cX2_aboutDoor 65 = .ok (.getfield 188, 3) := by decide +kernel
theorem dX2_aboutDoor_68 : decode cX2_aboutDoor 68 = .ok (.ireturn, 1) := by decide +kernel
theorem dX2_aboutDoor_69 : decode cX2_aboutDoor 69 = .ok (.aload_n 3, 1) := by decide +kernel
theorem dX2_aboutDoor_70 : decode cX2_aboutDoor 70 = .ok (.getfield 191, 3) := by decide +kernel
theorem dX2_aboutDoor_73 : decode cX2_aboutDoor 73 = .ok (.ireturn, 1) := by decide +kernel
theorem dX2_aboutDoor_74 : decode cX2_aboutDoor 74 = .ok (.aload_n 3, 1) := by decide +kernel
theorem dX2_aboutDoor_75 : decode cX2_aboutDoor 75 = .ok (.getfield 101, 3) := by decide +kernel
theorem dX2_aboutDoor_78 : decode cX2_aboutDoor 78 = .ok (.ireturn, 1) := by decide +kernel
theorem dX2_aboutDoor_79 : decode cX2_aboutDoor 79 = .ok (.aload_n 3, 1) := by decide +kernel
theorem dX2_aboutDoor_80 : decode cX2_aboutDoor 80 = .ok (.getfield 104, 3) := by decide +kernel
theorem dX2_aboutDoor_83 : decode cX2_aboutDoor 83 = .ok (.ireturn, 1) := by decide +kernel
theorem dX2_aboutDoor_84 : decode cX2_aboutDoor 84 = .ok (.aload_n 3, 1) := by decide +kernel
theorem dX2_aboutDoor_85 : decode cX2_aboutDoor 85 = .ok (.invokevirtual 94, 3) := by decide +kernel
theorem dX2_aboutDoor_88 : decode cX2_aboutDoor 88 = .ok (.ireturn, 1) := by decide +kernel
theorem dX2_aboutDoor_89 : decode cX2_aboutDoor 89 = .ok (.aload_n 3, 1) := by decide +kernel
theorem dX2_aboutDoor_90 : decode cX2_aboutDoor 90 = .ok (.getfield 107, 3) := by decide +kernel
theorem dX2_aboutDoor_93 : decode cX2_aboutDoor 93 = .ok (.ireturn, 1) := by decide +kernel
theorem dX2_aboutDoor_94 : decode cX2_aboutDoor 94 = .ok (.aload_n 0, 1) := by decide +kernel
theorem dX2_aboutDoor_95 : decode cX2_aboutDoor 95 = .ok (.iload_n 1, 1) := by decide +kernel
theorem dX2_aboutDoor_96 : decode cX2_aboutDoor 96 = .ok (.invokevirtual 139, 3) := by decide +kernel
theorem dX2_aboutDoor_99 : decode cX2_aboutDoor 99 = .ok (.ireturn, 1) := by decide +kernel
theorem dX2_aboutDoor_100 : decode cX2_aboutDoor 100 = .ok (.aload_n 0, 1) := by decide +kernel
theorem dX2_aboutDoor_101 : decode cX2_aboutDoor 101 = .ok (.getfield 30, 3) := by decide +kernel
theorem dX2_aboutDoor_104 : decode cX2_aboutDoor 104 = .ok (.iload_n 1, 1) := by decide +kernel
theorem dX2_aboutDoor_105 : decode cX2_aboutDoor 105 = .ok (.invokevirtual 145, 3) := by decide +kernel
theorem dX2_aboutDoor_108 : decode cX2_aboutDoor 108 = .ok (.ireturn, 1) := by decide +kernel
theorem dX2_aboutDoor_109 : decode cX2_aboutDoor 109 = .ok (.bipush (-2), 2) := by decide +kernel
theorem dX2_aboutDoor_111 : decode cX2_aboutDoor 111 = .ok (.ireturn, 1) := by decide +kernel
theorem dX2_aboutKey_0 : decode cX2_aboutKey 0 = .ok (.aload_n 0, 1) := by decide +kernel
theorem dX2_aboutKey_1 : decode cX2_aboutKey 1 = .ok (.iload_n 1, 1) := by decide +kernel
theorem dX2_aboutKey_2 : decode cX2_aboutKey 2 = .ok (.invokevirtual 126, 3) := by decide +kernel
theorem dX2_aboutKey_5 : decode cX2_aboutKey 5 = .ok (.ifCond .ne 5, 3) := by decide +kernel
theorem dX2_aboutKey_8 : decode cX2_aboutKey 8 = .ok (.iconst (-1), 1) := by decide +kernel
theorem dX2_aboutKey_9 : decode cX2_aboutKey 9 = .ok (.ireturn, 1) := by decide +kernel
theorem dX2_aboutKey_10 : decode cX2_aboutKey 10 = .ok (.aload_n 0, 1) := by decide +kernel
theorem dX2_aboutKey_11 : decode cX2_aboutKey 11 = .ok (.getfield 23, 3) := by decide +kernel
theorem dX2_aboutKey_14 : decode cX2_aboutKey 14 = .ok (.iload_n 1, 1) := by decide +kernel
theorem dX2_aboutKey_15 : decode cX2_aboutKey 15 = .ok (.aaload, 1) := by decide +kernel
theorem dX2_aboutKey_16 : decode cX2_aboutKey 16 = .ok (.astore_n 3, 1) := by decide +kernel
theorem dX2_aboutKey_17 : decode cX2_aboutKey 17 = .ok (.iload_n 2, 1) := by decide +kernel
theorem dX2_aboutKey_18 : decode cX2_aboutKey 18 = .ok (.tableswitch 67 0 3 #[30, 35, 40, 45], 30) := by decide +kernel
theorem dX2_aboutKey_48 : decode cX2_aboutKey 48 = .ok (.aload_n 3, 1) := by decide +kernel
theorem dX2_aboutKey_49 : decode cX2_aboutKey 49 = .ok (.getfield 118, 3) := by decide +kernel
theorem dX2_aboutKey_52 : decode cX2_aboutKey 52 = .ok (.ireturn, 1) := by decide +kernel
theorem dX2_aboutKey_53 : decode cX2_aboutKey 53 = .ok (.aload_n 3, 1) := by decide +kernel
theorem dX2_aboutKey_54 : decode cX2_aboutKey 54 = .ok (.getfield 121, 3) := by decide +kernel
theorem dX2_aboutKey_57 : decode cX2_aboutKey 57 = .ok (.ireturn, 1) := by decide +kernel
theorem dX2_aboutKey_58 : decode cX2_aboutKey 58 = .ok (.aload_n 3, 1) := by decide +kernel
theorem dX2_aboutKey_59 : decode cX2_aboutKey 59 = .ok (.getfield 123, 3) := by decide +kernel
theorem dX2_aboutKey_62 : decode cX2_aboutKey 62 = .ok (.ireturn, 1) := by decide +kernel
theorem dX2_aboutKey_63 : decode cX2_aboutKey 63 = .ok (.aload_n 3, 1) := by decide +kernel
theorem dX2_aboutKey_64 : decode cX2_aboutKey 64 = .ok (.getfield 123, 3) := by decide +kernel
theorem dX2_aboutKey_67 : decode cX2_aboutKey 67 = .ok (.bipush 9, 2) := by decide +kernel
theorem dX2_aboutKey_69 : decode cX2_aboutKey 69 = .ok (.if_icmp .ne 7, 3) := by decide +kernel
theorem dX2_aboutKey_72 : decode cX2_aboutKey 72 = .ok (.iconst 0, 1) := by decide +kernel
theorem dX2_aboutKey_73 : decode cX2_aboutKey 73 = .ok (.goto 11, 3) := by decide +kernel
theorem dX2_aboutKey_76 : decode cX2_aboutKey 76 = .ok (.aload_n 0, 1) := by decide +kernel
theorem dX2_aboutKey_77 : decode cX2_aboutKey 77 = .ok (.aload_n 3, 1) := by decide +kernel
theorem dX2_aboutKey_78 : decode cX2_aboutKey 78 = .ok (.getfield 118, 3) := by decide +kernel
theorem dX2_aboutKey_81 : decode cX2_aboutKey 81 = .ok (.invokevirtual 194, 3) := by decide +kernel
theorem dX2_aboutKey_84 : decode cX2_aboutKey 84 = .ok (.ireturn, 1) := by decide +kernel
theorem dX2_aboutKey_85 : decode cX2_aboutKey 85 = .ok (.bipush (-2), 2) := by decide +kernel
theorem dX2_aboutKey_87 : decode cX2_aboutKey 87 = .ok (.ireturn, 1) := by decide +kernel
theorem dX2_aboutAll_0 : decode cX2_aboutAll 0 = .ok (.iload_n 1, 1) := by decide +kernel
theorem dX2_aboutAll_1 : decode cX2_aboutAll 1 = .ok (.tableswitch 160 0 15 #[79, 84, 91, 96, 101, 106, 111, 116, 121, 126, 134, 160, 160, 139, 146, 153], 79) := by decide +kernel
theorem dX2_aboutAll_80 : decode cX2_aboutAll 80 = .ok (.aload_n 0, 1) := by decide +kernel
theorem dX2_aboutAll_81 : decode cX2_aboutAll 81 = .ok (.getfield 53, 3) := by decide +kernel
theorem dX2_aboutAll_84 : decode cX2_aboutAll 84 = .ok (.ireturn, 1) := by decide +kernel
theorem dX2_aboutAll_85 : decode cX2_aboutAll 85 = .ok (.aload_n 0, 1) := by decide +kernel
theorem dX2_aboutAll_86 : decode cX2_aboutAll 86 = .ok (.bipush 8, 2) := by decide +kernel
theorem dX2_aboutAll_88 : decode cX2_aboutAll 88 = .ok (.invokevirtual 133, 3) := by decide +kernel
theorem dX2_aboutAll_91 : decode cX2_aboutAll 91 = .ok (.ireturn, 1) := by decide +kernel
theorem dX2_aboutAll_92 : decode cX2_aboutAll 92 = .ok (.aload_n 0, 1) := by decide +kernel
theorem dX2_aboutAll_93 : decode cX2_aboutAll 93 = .ok (.getfield 36, 3) := by decide +kernel
theorem dX2_aboutAll_96 : decode cX2_aboutAll 96 = .ok (.ireturn, 1) := by decide +kernel
theorem dX2_aboutAll_97 : decode cX2_aboutAll 97 = .ok (.aload_n 0, 1) := by decide +kernel
theorem dX2_aboutAll_98 : decode cX2_aboutAll 98 = .ok (.getfield 44, 3) := by decide +kernel
theorem dX2_aboutAll_101 : decode cX2_aboutAll 101 = .ok (.ireturn, 1) := by decide +kernel
theorem dX2_aboutAll_102 : decode cX2_aboutAll 102 = .ok (.aload_n 0, 1) := by decide +kernel
theorem dX2_aboutAll_103 : decode cX2_aboutAll 103 = .ok (.getfield 62, 3) := by decide +kernel
theorem dX2_aboutAll_106 : decode cX2_aboutAll 106 = .ok (.ireturn, 1) := by decide +kernel
theorem dX2_aboutAll_107 : decode cX2_aboutAll 107 = .ok (.aload_n 0, 1) := by decide +kernel
theorem dX2_aboutAll_108 : decode cX2_aboutAll 108 = .ok (.invokevirtual 197, 3) := by decide +kernel
theorem dX2_aboutAll_111 : decode cX2_aboutAll 111 = .ok (.ireturn, 1) := by decide +kernel
theorem dX2_aboutAll_112 : decode cX2_aboutAll 112 = .ok (.aload_n 0, 1) := by decide +kernel
theorem dX2_aboutAll_113 : decode cX2_aboutAll 113 = .ok (.invokevirtual 200, 3) := by decide +kernel
theorem dX2_aboutAll_116 : decode cX2_aboutAll 116 = .ok (.ireturn, 1) := by decide +kernel
theorem dX2_aboutAll_117 : decode cX2_aboutAll 117 = .ok (.aload_n 0, 1) := by decide +kernel
theorem dX2_aboutAll_118 : decode cX2_aboutAll 118 = .ok (.getfield 59, 3) := by decide +kernel
theorem dX2_aboutAll_121 : decode cX2_aboutAll 121 = .ok (.ireturn, 1) := by decide +kernel
theorem dX2_aboutAll_122 : decode cX2_aboutAll 122 = .ok (.aload_n 0, 1) := by decide +kernel
theorem dX2_aboutAll_123 : decode cX2_aboutAll 123 = .ok (.getfield 65, 3) := by decide +kernel
theorem dX2_aboutAll_126 : decode cX2_aboutAll 126 = .ok (.ireturn, 1) := by decide +kernel
theorem dX2_aboutAll_127 : decode cX2_aboutAll 127 = .ok (.aload_n 0, 1) := by decide +kernel
theorem dX2_aboutAll_128 : decode cX2_aboutAll 128 = .ok (.getfield 30, 3) := by decide +kernel
theorem dX2_aboutAll_131 : decode cX2_aboutAll 131 = .ok (.getfield 142, 3) := by decide +kernel
theorem dX2_aboutAll_134 : decode cX2_aboutAll 134 = .ok (.ireturn, 1) := by decide +kernel
theorem dX2_aboutAll_135 : decode cX2_aboutAll 135 = .ok (.aload_n 0, 1) := by decide +kernel
theorem dX2_aboutAll_136 : decode cX2_aboutAll 136 = .ok (.getfield 56, 3) := by decide +kernel
theorem dX2_aboutAll_139 : decode cX2_aboutAll 139 = .ok (.ireturn, 1) := by decide +kernel
theorem dX2_aboutAll_140 : decode cX2_aboutAll 140 = .ok (.aload_n 0, 1) := by decide +kernel
theorem dX2_aboutAll_141 : decode cX2_aboutAll 141 = .ok (.getfield 9, 3) := by decide +kernel
theorem dX2_aboutAll_144 : decode cX2_aboutAll 144 = .ok (.iconst 0, 1) := by decide +kernel
theorem dX2_aboutAll_145 : decode cX2_aboutAll 145 = .ok (.iaload, 1) := by decide +kernel
theorem dX2_aboutAll_146 : decode cX2_aboutAll 146 = .ok (.ireturn, 1) := by decide +kernel
theorem dX2_aboutAll_147 : decode cX2_aboutAll 147 = .ok (.aload_n 0, 1) := by decide +kernel
theorem dX2_aboutAll_148 : decode cX2_aboutAll 148 = .ok (.getfield 9, 3) := by decide +kernel
theorem dX2_aboutAll_151 : decode cX2_aboutAll 151 = .ok (.iconst 1, 1) := by decide +kernel
theorem dX2_aboutAll_152 : decode cX2_aboutAll 152 = .ok (.iaload, 1) := by decide +kernel
theorem dX2_aboutAll_153 : decode cX2_aboutAll 153 = .ok (.ireturn, 1) := by decide +kernel
theorem dX2_aboutAll_154 : decode cX2_aboutAll 154 = .ok (.aload_n 0, 1) := by decide +kernel
theorem dX2_aboutAll_155 : decode cX2_aboutAll 155 = .ok (.getfield 9, 3) := by decide +kernel
theorem dX2_aboutAll_158 : decode cX2_aboutAll 158 = .ok (.iconst 2, 1) := by decide +kernel
theorem dX2_aboutAll_159 : decode cX2_aboutAll 159 = .ok (.iaload, 1) := by decide +kernel
theorem dX2_aboutAll_160 : decode cX2_aboutAll 160 = .ok (.ireturn, 1) := by decide +kernel
theorem dX2_aboutAll_161 : decode cX2_aboutAll 161 = .ok (.bipush (-2), 2) := by decide +kernel
theorem dX2_aboutAll_163 : decode cX2_aboutAll 163 = .ok (.ireturn, 1) := by decide +kernel
theorem dX3_init_0 : decode cX3_init 0 = .ok (.aload_n 0, 1) := by decide +kernel
theorem dX3_init_1 : decode cX3_init 1 = .ok (.invokespecial 1, 3) := by decide +kernel
theorem dX3_init_4 : decode cX3_init 4 = .ok (.return_, 1) := by decide +kernel
theorem dX3_copyFrom_0 : decode cX3_copyFrom 0 = .ok (.aload_n 0, 1) := by decide +kernel
theorem dX3_copyFrom_1 : decode cX3_copyFrom 1 = .ok (.aload_n 1, 1) := by decide +kernel
theorem dX3_copyFrom_2 : decode cX3_copyFrom 2 = .ok (.getfield 7, 3) := by decide +kernel
theorem dX3_copyFrom_5 : decode cX3_copyFrom 5 = .ok (.putfield 7, 3) := by decide +kernel
theorem dX3_copyFrom_8 : decode cX3_copyFrom 8 = .ok (.aload_n 0, 1) := by decide +kernel
theorem dX3_copyFrom_9 : decode cX3_copyFrom 9 = .ok (.aload_n 1, 1) := by decide +kernel
theorem dX3_copyFrom_10 : decode cX3_copyFrom 10 = .ok (.getfield 13, 3) := by decide +kernel
theorem dX3_copyFrom_13 : decode cX3_copyFrom 13 = .ok (.putfield 13, 3) := by decide +kernel
theorem dX3_copyFrom_16 : decode cX3_copyFrom 16 = .ok (.aload_n 0, 1) := by decide +kernel
theorem dX3_copyFrom_17 : decode cX3_copyFrom 17 = .ok (.aload_n 1, 1) := by decide +kernel
theorem dX3_copyFrom_18 : decode cX3_copyFrom 18 = .ok (.getfield 16, 3) := by decide +kernel
theorem dX3_copyFrom_21 : decode cX3_copyFrom 21 = .ok (.putfield 16, 3) := by decide +kernel
theorem dX3_copyFrom_24 : decode cX3_copyFrom 24 = .ok (.return_, 1) := by decide +kernel
theorem dX4_init_0 : decode cX4_init 0 = .ok (.aload_n 0, 1) := by decide +kernel
theorem dX4_init_1 : decode cX4_init 1 = .ok (.invokespecial 3, 3) := by decide +kernel
theorem dX4_init_4 : decode cX4_init 4 = .ok (.aload_n 0, 1) := by decide +kernel
theorem dX4_init_5 : decode cX4_init 5 = .ok (.iconst 4, 1) := by decide +kernel
theorem dX4_init_6 : decode cX4_init 6 = .ok (.newarray .int, 2) := by decide +kernel
theorem dX4_init_8 : decode cX4_init 8 = .ok (.putfield 9, 3) := by decide +kernel
theorem dX4_init_11 : decode cX4_init 11 = .ok (.aload_n 0, 1) := by decide +kernel
theorem dX4_init_12 : decode cX4_init 12 = .ok (.bipush 10, 2) := by decide +kernel
theorem dX4_init_14 : decode cX4_init 14 = .ok (.newarray .int, 2) := by decide +kernel
theorem dX4_init_16 : decode cX4_init 16 = .ok (.putfield 15, 3) := by decide +kernel
theorem dX4_init_19 : decode cX4_init 19 = .ok (.aload_n 0, 1) := by decide +kernel
theorem dX4_init_20 : decode cX4_init 20 = .ok (.bipush 10, 2) := by decide +kernel
theorem dX4_init_22 : decode cX4_init 22 = .ok (.newarray .int, 2) := by decide +kernel
theorem dX4_init_24 : decode cX4_init 24 = .ok (.putfield 18, 3) := by decide +kernel
theorem dX4_init_27 : decode cX4_init 27 = .ok (.return_, 1) := by decide +kernel
theorem dX5_init_0 : decode cX5_init 0 = .ok (.aload_n 0, 1) := by decide +kernel
theorem dX5_init_1 : decode cX5_init 1 = .ok (.invokespecial 1, 3) := by decide +kernel
theorem dX5_init_4 : decode cX5_init 4 = .ok (.return_, 1) := by decide +kernel
theorem dX6_init_0 : decode cX6_init 0 = .ok (.aload_n 0, 1) := by decide +kernel
theorem dX6_init_1 : decode cX6_init 1 = .ok (.invokespecial 3, 3) := by decide +kernel
theorem dX6_init_4 : decode cX6_init 4 = .ok (.aload_n 0, 1) := by decide +kernel
theorem dX6_init_5 : decode cX6_init 5 = .ok (.bipush 80, 2) := by decide +kernel
theorem dX6_init_7 : decode cX6_init 7 = .ok (.newarray .char, 2) := by decide +kernel
theorem dX6_init_9 : decode cX6_init 9 = .ok (.putfield 9, 3) := by decide +kernel
theorem dX6_init_12 : decode cX6_init 12 = .ok (.aload_n 0, 1) := by decide +kernel
theorem dX6_init_13 : decode cX6_init 13 = .ok (.bipush 27, 2) := by decide +kernel
theorem dX6_init_15 : decode cX6_init 15 = .ok (.anewarray 15, 3) := by decide +kernel
theorem dX6_init_18 : decode cX6_init 18 = .ok (.putfield 17, 3) := by decide +kernel
theorem dX6_init_21 : decode cX6_init 21 = .ok (.iconst 0, 1) := by decide +kernel
theorem dX6_init_22 : decode cX6_init 22 = .ok (.istore_n 1, 1) := by decide +kernel
theorem dX6_init_23 : decode cX6_init 23 = .ok (.iload_n 1, 1) := by decide +kernel
theorem dX6_init_24 : decode cX6_init 24 = .ok (.bipush 27, 2) := by decide +kernel
theorem dX6_init_26 : decode cX6_init 26 = .ok (.if_icmp .ge 22, 3) := by decide +kernel
theorem dX6_init_29 : decode cX6_init 29 = .ok (.aload_n 0, 1) := by decide +kernel
theorem dX6_init_30 : decode cX6_init 30 = .ok (.getfield 17, 3) := by decide +kernel
theorem dX6_init_33 : decode cX6_init 33 = .ok (.iload_n 1, 1) := by decide +kernel
theorem dX6_init_34 : decode cX6_init 34 = .ok (.new 15, 3) := by decide +kernel
theorem dX6_init_37 : decode cX6_init 37 = .ok (.dup, 1) := by decide +kernel
theorem dX6_init_38 : decode cX6_init 38 = .ok (.invokespecial 21, 3) := by decide +kernel
theorem dX6_init_41 : decode cX6_init 41 = .ok (.aastore, 1) := by decide +kernel
theorem dX6_init_42 : decode cX6_init 42 = .ok (.iinc 1 1, 3) := by decide +kernel
theorem dX6_init_45 : decode cX6_init 45 = .ok (.goto (-22), 3) := by decide +kernel
theorem dX6_init_48 : decode cX6_init 48 = .ok (.return_, 1) := by decide +kernel
theorem dX7_init_0 : decode cX7_init 0 = .ok (.aload_n 0, 1) := by decide +kernel
theorem dX7_init_1 : decode cX7_init 1 = .ok (.invokespecial 3, 3) := by decide +kernel
theorem dX7_init_4 : decode cX7_init 4 = .ok (.aload_n 0, 1) := by decide +kernel
theorem dX7_init_5 : decode cX7_init 5 = .ok (.bipush 6, 2) := by decide +kernel
theorem dX7_init_7 : decode cX7_init 7 = .ok (.newarray .int, 2) := by decide +kernel
theorem dX7_init_9 : decode cX7_init 9 = .ok (.putfield 9, 3) := by decide +kernel
theorem dX7_init_12 : decode cX7_init 12 = .ok (.aload_n 0, 1) := by decide +kernel
theorem dX7_init_13 : decode cX7_init 13 = .ok (.bipush 6, 2) := by decide +kernel
theorem dX7_init_15 : decode cX7_init 15 = .ok (.newarray .int, 2) := by decide +kernel
theorem dX7_init_17 : decode cX7_init 17 = .ok (.putfield 15, 3) := by decide +kernel
theorem dX7_init_20 : decode cX7_init 20 = .ok (.aload_n 0, 1) := by decide +kernel
theorem dX7_init_21 : decode cX7_init 21 = .ok (.bipush 6, 2) := by decide +kernel
theorem dX7_init_23 : decode cX7_init 23 = .ok (.newarray .int, 2) := by decide +kernel
theorem dX7_init_25 : decode cX7_init 25 = .ok (.putfield 18, 3) := by decide +kernel
theorem dX7_init_28 : decode cX7_init 28 = .ok (.return_, 1) := by decide +kernel
theorem dX7_copyFrom_0 : decode cX7_copyFrom 0 = .ok (.iconst 0, 1) := by decide +kernel
theorem dX7_copyFrom_1 : decode cX7_copyFrom 1 = .ok (.istore_n 2, 1) := by decide +kernel
theorem dX7_copyFrom_2 : decode cX7_copyFrom 2 = .ok (.iload_n 2, 1) := by decide +kernel
theorem dX7_copyFrom_3 : decode cX7_copyFrom 3 = .ok (.aload_n 1, 1) := by decide +kernel
theorem dX7_copyFrom_4 : decode cX7_copyFrom 4 = .ok (.getfield 21, 3) := by decide +kernel
theorem dX7_copyFrom_7 : decode cX7_copyFrom 7 = .ok (.if_icmp .ge 45, 3) := by decide +kernel
theorem dX7_copyFrom_10 : decode cX7_copyFrom 10 = .ok (.aload_n 0, 1) := by decide +kernel
theorem dX7_copyFrom_11 : decode cX7_copyFrom 11 = .ok (.getfield 9, 3) := by decide +kernel
theorem dX7_copyFrom_14 : decode cX7_copyFrom 14 = .ok (.iload_n 2, 1) := by decide +kernel
theorem dX7_copyFrom_15 : decode cX7_copyFrom 15 = .ok (.aload_n 1, 1) := by decide +kernel
theorem dX7_copyFrom_16 : decode cX7_copyFrom 16 = .ok (.getfield 9, 3) := by decide +kernel
theorem dX7_copyFrom_19 : decode cX7_copyFrom 19 = .ok (.iload_n 2, 1) := by decide +kernel
theorem dX7_copyFrom_20 : decode cX7_copyFrom 20 = .ok (.iaload, 1) := by decide +kernel
theorem dX7_copyFrom_21 : decode cX7_copyFrom 21 = .ok (.iastore, 1) := by decide +kernel
theorem dX7_copyFrom_22 : decode cX7_copyFrom 22 = .ok (.aload_n 0, 1) := by decide +kernel
theorem dX7_copyFrom_23 : decode cX7_copyFrom 23 = .ok (.getfield 15, 3) := by decide +kernel
theorem dX7_copyFrom_26 : decode cX7_copyFrom 26 = .ok (.iload_n 2, 1) := by decide +kernel
theorem dX7_copyFrom_27 : decode cX7_copyFrom 27 = .ok (.aload_n 1, 1) := by decide +kernel
theorem dX7_copyFrom_28 : decode cX7_copyFrom 28 = .ok (.getfield 15, 3) := by decide +kernel
theorem dX7_copyFrom_31 : decode cX7_copyFrom 31 = .ok (.iload_n 2, 1) := by decide +kernel
theorem dX7_copyFrom_32 : decode cX7_copyFrom 32 = .ok (.iaload, 1) := by decide +kernel
theorem dX7_copyFrom_33 : decode cX7_copyFrom 33 = .ok (.iastore, 1) := by decide +kernel
theorem dX7_copyFrom_34 : decode cX7_copyFrom 34 = .ok (.aload_n 0, 1) := by decide +kernel
theorem dX7_copyFrom_35 : decode cX7_copyFrom 35 = .ok (.getfield 18, 3) := by decide +kernel
theorem dX7_copyFrom_38 : decode cX7_copyFrom 38 = .ok (.iload_n 2, 1) := by decide +kernel
theorem dX7_copyFrom_39 : decode cX7_copyFrom 39 = .ok (.aload_n 1, 1) := by decide +kernel
theorem dX7_copyFrom_40 : decode cX7_copyFrom 40 = .ok (.getfield 18, 3) := by decide +kernel
theorem dX7_copyFrom_43 : decode cX7_copyFrom 43 = .ok (.iload_n 2, 1) := by decide +kernel
theorem dX7_copyFrom_44 : decode cX7_copyFrom 44 = .ok (.iaload, 1) := by decide +kernel
theorem dX7_copyFrom_45 : decode cX7_copyFrom 45 = .ok (.iastore, 1) := by decide +kernel
theorem dX7_copyFrom_46 : decode cX7_copyFrom 46 = .ok (.iinc 2 1, 3) := by decide +kernel
theorem dX7_copyFrom_49 : decode cX7_copyFrom 49 = .ok (.goto (-47), 3) := by decide +kernel
theorem dX7_copyFrom_52 : decode cX7_copyFrom 52 = .ok (.aload_n 0, 1) := by decide +kernel
theorem dX7_copyFrom_53 : decode cX7_copyFrom 53 = .ok (.aload_n 1, 1) := by decide +kernel
theorem dX7_copyFrom_54 : decode cX7_copyFrom 54 = .ok (.getfield 21, 3) := by decide +kernel
theorem dX7_copyFrom_57 : decode cX7_copyFrom 57 = .ok (.putfield 21, 3) := by decide +kernel
theorem dX7_copyFrom_60 : decode cX7_copyFrom 60 = .ok (.return_, 1) := by decide +kernel
theorem dX7_placeOf_0 : decode cX7_placeOf 0 = .ok (.iconst 0, 1) := by decide +kernel
theorem dX7_placeOf_1 : decode cX7_placeOf 1 = .ok (.istore_n 2, 1) := by decide +kernel
theorem dX7_placeOf_2 : decode cX7_placeOf 2 = .ok (.iload_n 2, 1) := by decide +kernel
theorem dX7_placeOf_3 : decode cX7_placeOf 3 = .ok (.aload_n 0, 1) := by decide +kernel
theorem dX7_placeOf_4 : decode cX7_placeOf 4 = .ok (.getfield 21, 3) := by decide +kernel
theorem dX7_placeOf_7 : decode cX7_placeOf 7 = .ok (.if_icmp .ge 21, 3) := by decide +kernel
theorem dX7_placeOf_10 : decode cX7_placeOf 10 = .ok (.aload_n 0, 1) := by decide +kernel
theorem dX7_placeOf_11 : decode cX7_placeOf 11 = .ok (.getfield 9, 3) := by decide +kernel
theorem dX7_placeOf_14 : decode cX7_placeOf 14 = .ok (.iload_n 2, 1) := by decide +kernel
theorem dX7_placeOf_15 : decode cX7_placeOf 15 = .ok (.iaload, 1) := by decide +kernel
theorem dX7_placeOf_16 : decode cX7_placeOf 16 = .ok (.iload_n 1, 1) := by decide +kernel
theorem dX7_placeOf_17 : decode cX7_placeOf 17 = .ok (.if_icmp .ne 5, 3) := by decide +kernel
theorem dX7_placeOf_20 : decode cX7_placeOf 20 = .ok (.iload_n 2, 1) := by decide +kernel
theorem dX7_placeOf_21 : decode cX7_placeOf 21 = .ok (.ireturn, 1) := by decide +kernel
theorem dX7_placeOf_22 : decode cX7_placeOf 22 = .ok (.iinc 2 1, 3) := by decide +kernel
theorem dX7_placeOf_25 : decode cX7_placeOf 25 = .ok (.goto (-23), 3) := by decide +kernel
theorem dX7_placeOf_28 : decode cX7_placeOf 28 = .ok (.bipush (-6), 2) := by decide +kernel
theorem dX7_placeOf_30 : decode cX7_placeOf 30 = .ok (.ireturn, 1) := by decide +kernel
theorem dX8_init_0 : decode cX8_init 0 = .ok (.aload_n 0, 1) := by decide +kernel
theorem dX8_init_1 : decode cX8_init 1 = .ok (.invokespecial 3, 3) := by decide +kernel
theorem dX8_init_4 : decode cX8_init 4 = .ok (.aload_n 0, 1) := by decide +kernel
theorem dX8_init_5 : decode cX8_init 5 = .ok (.bipush 6, 2) := by decide +kernel
theorem dX8_init_7 : decode cX8_init 7 = .ok (.newarray .int, 2) := by decide +kernel
theorem dX8_init_9 : decode cX8_init 9 = .ok (.putfield 9, 3) := by decide +kernel
theorem dX8_init_12 : decode cX8_init 12 = .ok (.aload_n 0, 1) := by decide +kernel
theorem dX8_init_13 : decode cX8_init 13 = .ok (.bipush 6, 2) := by decide +kernel
theorem dX8_init_15 : decode cX8_init 15 = .ok (.newarray .int, 2) := by decide +kernel
theorem dX8_init_17 : decode cX8_init 17 = .ok (.putfield 15, 3) := by decide +kernel
theorem dX8_init_20 : decode cX8_init 20 = .ok (.aload_n 0, 1) := by decide +kernel
theorem dX8_init_21 : decode cX8_init 21 = .ok (.bipush 64, 2) := by decide +kernel
theorem dX8_init_23 : decode cX8_init 23 = .ok (.newarray .int, 2) := by decide +kernel
theorem dX8_init_25 : decode cX8_init 25 = .ok (.putfield 18, 3) := by decide +kernel
theorem dX8_init_28 : decode cX8_init 28 = .ok (.aload_n 0, 1) := by decide +kernel
theorem dX8_init_29 : decode cX8_init 29 = .ok (.bipush 64, 2) := by decide +kernel
theorem dX8_init_31 : decode cX8_init 31 = .ok (.newarray .int, 2) := by decide +kernel
theorem dX8_init_33 : decode cX8_init 33 = .ok (.putfield 21, 3) := by decide +kernel
theorem dX8_init_36 : decode cX8_init 36 = .ok (.aload_n 0, 1) := by decide +kernel
theorem dX8_init_37 : decode cX8_init 37 = .ok (.bipush 64, 2) := by decide +kernel
theorem dX8_init_39 : decode cX8_init 39 = .ok (.newarray .int, 2) := by decide +kernel
theorem dX8_init_41 : decode cX8_init 41 = .ok (.putfield 24, 3) := by decide +kernel
theorem dX8_init_44 : decode cX8_init 44 = .ok (.aload_n 0, 1) := by decide +kernel
theorem dX8_init_45 : decode cX8_init 45 = .ok (.bipush 64, 2) := by decide +kernel
theorem dX8_init_47 : decode cX8_init 47 = .ok (.newarray .int, 2) := by decide +kernel
theorem dX8_init_49 : decode cX8_init 49 = .ok (.putfield 27, 3) := by decide +kernel
theorem dX8_init_52 : decode cX8_init 52 = .ok (.return_, 1) := by decide +kernel
theorem dX8_work_0 : decode cX8_work 0 = .ok (.aload_n 0, 1) := by decide +kernel
theorem dX8_work_1 : decode cX8_work 1 = .ok (.aload_n 1, 1) := by decide +kernel
theorem dX8_work_2 : decode cX8_work 2 = .ok (.getfield 30, 3) := by decide +kernel
theorem dX8_work_5 : decode cX8_work 5 = .ok (.getfield 36, 3) := by decide +kernel
theorem dX8_work_8 : decode cX8_work 8 = .ok (.putfield 42, 3) := by decide +kernel
theorem dX8_work_11 : decode cX8_work 11 = .ok (.iconst 0, 1) := by decide +kernel
theorem dX8_work_12 : decode cX8_work 12 = .ok (.istore_n 2, 1) := by decide +kernel
theorem dX8_work_13 : decode cX8_work 13 = .ok (.iload_n 2, 1) := by decide +kernel
theorem dX8_work_14 : decode cX8_work 14 = .ok (.aload_n 0, 1) := by decide +kernel
theorem dX8_work_15 : decode cX8_work 15 = .ok (.getfield 42, 3) := by decide +kernel
theorem dX8_work_18 : decode cX8_work 18 = .ok (.if_icmp .ge 15, 3) := by decide +kernel
theorem dX8_work_21 : decode cX8_work 21 = .ok (.aload_n 0, 1) := by decide +kernel
theorem dX8_work_22 : decode cX8_work 22 = .ok (.aload_n 1, 1) := by decide +kernel
theorem dX8_work_23 : decode cX8_work 23 = .ok (.iload_n 2, 1) := by decide +kernel
theorem dX8_work_24 : decode cX8_work 24 = .ok (.invokevirtual 43, 3) := by decide +kernel
theorem dX8_work_27 : decode cX8_work 27 = .ok (.iinc 2 1, 3) := by decide +kernel
theorem dX8_work_30 : decode cX8_work 30 = .ok (.goto (-17), 3) := by decide +kernel
theorem dX8_work_33 : decode cX8_work 33 = .ok (.iconst 1, 1) := by decide +kernel
theorem dX8_work_34 : decode cX8_work 34 = .ok (.aload_n 0, 1) := by decide +kernel
theorem dX8_work_35 : decode cX8_work 35 = .ok (.getfield 42, 3) := by decide +kernel
theorem dX8_work_38 : decode cX8_work 38 = .ok (.ishl, 1) := by decide +kernel
theorem dX8_work_39 : decode cX8_work 39 = .ok (.iconst 1, 1) := by decide +kernel
theorem dX8_work_40 : decode cX8_work 40 = .ok (.isub, 1) := by decide +kernel
theorem dX8_work_41 : decode cX8_work 41 = .ok (.istore_n 2, 1) := by decide +kernel
theorem dX8_work_42 : decode cX8_work 42 = .ok (.iconst 0, 1) := by decide +kernel
theorem dX8_work_43 : decode cX8_work 43 = .ok (.istore_n 3, 1) := by decide +kernel
theorem dX8_work_44 : decode cX8_work 44 = .ok (.iload_n 3, 1) := by decide +kernel
theorem dX8_work_45 : decode cX8_work 45 = .ok (.iload_n 2, 1) := by decide +kernel
theorem dX8_work_46 : decode cX8_work 46 = .ok (.if_icmp .gt 25, 3) := by decide +kernel
theorem dX8_work_49 : decode cX8_work 49 = .ok (.aload_n 0, 1) := by decide +kernel
theorem dX8_work_50 : decode cX8_work 50 = .ok (.getfield 18, 3) := by decide +kernel
theorem dX8_work_53 : decode cX8_work 53 = .ok (.iload_n 3, 1) := by decide +kernel
theorem dX8_work_54 : decode cX8_work 54 = .ok (.aload_n 1, 1) := by decide +kernel
theorem dX8_work_55 : decode cX8_work 55 = .ok (.getfield 47, 3) := by decide +kernel
theorem dX8_work_58 : decode cX8_work 58 = .ok (.aload_n 0, 1) := by decide +kernel
theorem dX8_work_59 : decode cX8_work 59 = .ok (.iload_n 3, 1) := by decide +kernel
theorem dX8_work_60 : decode cX8_work 60 = .ok (.invokevirtual 50, 3) := by decide +kernel
theorem dX8_work_63 : decode cX8_work 63 = .ok (.iadd, 1) := by decide +kernel
theorem dX8_work_64 : decode cX8_work 64 = .ok (.iastore, 1) := by decide +kernel
theorem dX8_work_65 : decode cX8_work 65 = .ok (.iinc 3 1, 3) := by decide +kernel
theorem dX8_work_68 : decode cX8_work 68 = .ok (.goto (-24), 3) := by decide +kernel
theorem dX8_work_71 : decode cX8_work 71 = .ok (.aload_n 0, 1) := by decide +kernel
theorem dX8_work_72 : decode cX8_work 72 = .ok (.getfield 21, 3) := by decide +kernel
theorem dX8_work_75 : decode cX8_work 75 = .ok (.iload_n 2, 1) := by decide +kernel
theorem dX8_work_76 : decode cX8_work 76 = .ok (.iconst 1, 1) := by decide +kernel
theorem dX8_work_77 : decode cX8_work 77 = .ok (.iastore, 1) := by decide +kernel
theorem dX8_work_78 : decode cX8_work 78 = .ok (.aload_n 0, 1) := by decide +kernel
theorem dX8_work_79 : decode cX8_work 79 = .ok (.getfield 24, 3) := by decide +kernel
theorem dX8_work_82 : decode cX8_work 82 = .ok (.iload_n 2, 1) := by decide +kernel
theorem dX8_work_83 : decode cX8_work 83 = .ok (.iconst 0, 1) := by decide +kernel
theorem dX8_work_84 : decode cX8_work 84 = .ok (.iastore, 1) := by decide +kernel
theorem dX8_work_85 : decode cX8_work 85 = .ok (.aload_n 0, 1) := by decide +kernel
theorem dX8_work_86 : decode cX8_work 86 = .ok (.getfield 27, 3) := by decide +kernel
theorem dX8_work_89 : decode cX8_work 89 = .ok (.iload_n 2, 1) := by decide +kernel
theorem dX8_work_90 : decode cX8_work 90 = .ok (.iconst 0, 1) := by decide +kernel
theorem dX8_work_91 : decode cX8_work 91 = .ok (.iastore, 1) := by decide +kernel
theorem dX8_work_92 : decode cX8_work 92 = .ok (.iload_n 2, 1) := by decide +kernel
theorem dX8_work_93 : decode cX8_work 93 = .ok (.iconst 1, 1) := by decide +kernel
theorem dX8_work_94 : decode cX8_work 94 = .ok (.isub, 1) := by decide +kernel
theorem dX8_work_95 : decode cX8_work 95 = .ok (.istore_n 3, 1) := by decide +kernel
theorem dX8_work_96 : decode cX8_work 96 = .ok (.iload_n 3, 1) := by decide +kernel
theorem dX8_work_97 : decode cX8_work 97 = .ok (.ifCond .lt 14, 3) := by decide +kernel
theorem dX8_work_100 : decode cX8_work 100 = .ok (.aload_n 0, 1) := by decide +kernel
theorem dX8_work_101 : decode cX8_work 101 = .ok (.iload_n 3, 1) := by decide +kernel
theorem dX8_work_102 : decode cX8_work 102 = .ok (.invokevirtual 54, 3) := by decide +kernel
theorem dX8_work_105 : decode cX8_work 105 = .ok (.iinc 3 (-1), 3) := by decide +kernel
theorem dX8_work_108 : decode cX8_work 108 = .ok (.goto (-12), 3) := by decide +kernel
theorem dX8_work_111 : decode cX8_work 111 = .ok (.return_, 1) := by decide +kernel
theorem dX8_weigh_0 : decode cX8_weigh 0 = .ok (.aload_n 1, 1) := by decide +kernel
theorem dX8_weigh_1 : decode cX8_weigh 1 = .ok (.getfield 58, 3) := by decide +kernel
theorem dX8_weigh_4 : decode cX8_weigh 4 = .ok (.aload_n 1, 1) := by decide +kernel
theorem dX8_weigh_5 : decode cX8_weigh 5 = .ok (.getfield 30, 3) := by decide +kernel
theorem dX8_weigh_8 : decode cX8_weigh 8 = .ok (.getfield 62, 3) := by decide +kernel
theorem dX8_weigh_11 : decode cX8_weigh 11 = .ok (.iload_n 2, 1) := by decide +kernel
theorem dX8_weigh_12 : decode cX8_weigh 12 = .ok (.iaload, 1) := by decide +kernel
theorem dX8_weigh_13 : decode cX8_weigh 13 = .ok (.aaload, 1) := by decide +kernel
theorem dX8_weigh_14 : decode cX8_weigh 14 = .ok (.invokevirtual 64, 3) := by decide +kernel
theorem dX8_weigh_17 : decode cX8_weigh 17 = .ok (.istore_n 3, 1) := by decide +kernel
theorem dX8_weigh_18 : decode cX8_weigh 18 = .ok (.aload_n 0, 1) := by decide +kernel
theorem dX8_weigh_19 : decode cX8_weigh 19 = .ok (.getfield 9, 3) := by decide +kernel
theorem dX8_weigh_22 : decode cX8_weigh 22 = .ok (.iload_n 2, 1) := by decide +kernel
theorem dX8_weigh_23 : decode cX8_weigh 23 = .ok (.iload_n 3, 1) := by decide +kernel
theorem dX8_weigh_24 : decode cX8_weigh 24 = .ok (.iload_n 3, 1) := by decide +kernel
theorem dX8_weigh_25 : decode cX8_weigh 25 = .ok (.aload_n 1, 1) := by decide +kernel
theorem dX8_weigh_26 : decode cX8_weigh 26 = .ok (.getfield 70, 3) := by decide +kernel
theorem dX8_weigh_29 : decode cX8_weigh 29 = .ok (.iconst 1, 1) := by decide +kernel
theorem dX8_weigh_30 : decode cX8_weigh 30 = .ok (.iaload, 1) := by decide +kernel
theorem dX8_weigh_31 : decode cX8_weigh 31 = .ok (.invokestatic 73, 3) := by decide +kernel
theorem dX8_weigh_34 : decode cX8_weigh 34 = .ok (.isub, 1) := by decide +kernel
theorem dX8_weigh_35 : decode cX8_weigh 35 = .ok (.iastore, 1) := by decide +kernel
theorem dX8_weigh_36 : decode cX8_weigh 36 = .ok (.aload_n 0, 1) := by decide +kernel
theorem dX8_weigh_37 : decode cX8_weigh 37 = .ok (.getfield 15, 3) := by decide +kernel
theorem dX8_weigh_40 : decode cX8_weigh 40 = .ok (.iload_n 2, 1) := by decide +kernel
theorem dX8_weigh_41 : decode cX8_weigh 41 = .ok (.aload_n 1, 1) := by decide +kernel
theorem dX8_weigh_42 : decode cX8_weigh 42 = .ok (.getfield 30, 3) := by decide +kernel
theorem dX8_weigh_45 : decode cX8_weigh 45 = .ok (.getfield 79, 3) := by decide +kernel
theorem dX8_weigh_48 : decode cX8_weigh 48 = .ok (.iload_n 2, 1) := by decide +kernel
theorem dX8_weigh_49 : decode cX8_weigh 49 = .ok (.iaload, 1) := by decide +kernel
theorem dX8_weigh_50 : decode cX8_weigh 50 = .ok (.aload_n 1, 1) := by decide +kernel
theorem dX8_weigh_51 : decode cX8_weigh 51 = .ok (.getfield 30, 3) := by decide +kernel
theorem dX8_weigh_54 : decode cX8_weigh 54 = .ok (.getfield 82, 3) := by decide +kernel
theorem dX8_weigh_57 : decode cX8_weigh 57 = .ok (.iload_n 2, 1) := by decide +kernel
theorem dX8_weigh_58 : decode cX8_weigh 58 = .ok (.iaload, 1) := by decide +kernel
theorem dX8_weigh_59 : decode cX8_weigh 59 = .ok (.invokestatic 85, 3) := by decide +kernel
theorem dX8_weigh_62 : decode cX8_weigh 62 = .ok (.iastore, 1) := by decide +kernel
theorem dX8_weigh_63 : decode cX8_weigh 63 = .ok (.return_, 1) := by decide +kernel
theorem dX8_gainOf_0 : decode cX8_gainOf 0 = .ok (.iconst 0, 1) := by decide +kernel
theorem dX8_gainOf_1 : decode cX8_gainOf 1 = .ok (.istore_n 2, 1) := by decide +kernel
theorem dX8_gainOf_2 : decode cX8_gainOf 2 = .ok (.iconst 0, 1) := by decide +kernel
theorem dX8_gainOf_3 : decode cX8_gainOf 3 = .ok (.istore_n 3, 1) := by decide +kernel
theorem dX8_gainOf_4 : decode cX8_gainOf 4 = .ok (.iload_n 3, 1) := by decide +kernel
theorem dX8_gainOf_5 : decode cX8_gainOf 5 = .ok (.aload_n 0, 1) := by decide +kernel
theorem dX8_gainOf_6 : decode cX8_gainOf 6 = .ok (.getfield 42, 3) := by decide +kernel
theorem dX8_gainOf_9 : decode cX8_gainOf 9 = .ok (.if_icmp .ge 33, 3) := by decide +kernel
theorem dX8_gainOf_12 : decode cX8_gainOf 12 = .ok (.iload_n 1, 1) := by decide +kernel
theorem dX8_gainOf_13 : decode cX8_gainOf 13 = .ok (.iload_n 3, 1) := by decide +kernel
theorem dX8_gainOf_14 : decode cX8_gainOf 14 = .ok (.ishr, 1) := by decide +kernel
theorem dX8_gainOf_15 : decode cX8_gainOf 15 = .ok (.iconst 1, 1) := by decide +kernel
theorem dX8_gainOf_16 : decode cX8_gainOf 16 = .ok (.iand, 1) := by decide +kernel
theorem dX8_gainOf_17 : decode cX8_gainOf 17 = .ok (.ifCond .eq 19, 3) := by decide +kernel
theorem dX8_gainOf_20 : decode cX8_gainOf 20 = .ok (.iload_n 2, 1) := by decide +kernel
theorem dX8_gainOf_21 : decode cX8_gainOf 21 = .ok (.aload_n 0, 1) := by decide +kernel
theorem dX8_gainOf_22 : decode cX8_gainOf 22 = .ok (.getfield 9, 3) := by decide +kernel
theorem dX8_gainOf_25 : decode cX8_gainOf 25 = .ok (.iload_n 3, 1) := by decide +kernel
theorem dX8_gainOf_26 : decode cX8_gainOf 26 = .ok (.iaload, 1) := by decide +kernel
theorem dX8_gainOf_27 : decode cX8_gainOf 27 = .ok (.aload_n 0, 1) := by decide +kernel
theorem dX8_gainOf_28 : decode cX8_gainOf 28 = .ok (.getfield 15, 3) := by decide +kernel
theorem dX8_gainOf_31 : decode cX8_gainOf 31 = .ok (.iload_n 3, 1) := by decide +kernel
theorem dX8_gainOf_32 : decode cX8_gainOf 32 = .ok (.iaload, 1) := by decide +kernel
theorem dX8_gainOf_33 : decode cX8_gainOf 33 = .ok (.isub, 1) := by decide +kernel
theorem dX8_gainOf_34 : decode cX8_gainOf 34 = .ok (.iadd, 1) := by decide +kernel
theorem dX8_gainOf_35 : decode cX8_gainOf 35 = .ok (.istore_n 2, 1) := by decide +kernel
theorem dX8_gainOf_36 : decode cX8_gainOf 36 = .ok (.iinc 3 1, 3) := by decide +kernel
theorem dX8_gainOf_39 : decode cX8_gainOf 39 = .ok (.goto (-35), 3) := by decide +kernel
theorem dX8_gainOf_42 : decode cX8_gainOf 42 = .ok (.iload_n 2, 1) := by decide +kernel
theorem dX8_gainOf_43 : decode cX8_gainOf 43 = .ok (.ireturn, 1) := by decide +kernel
theorem dX8_missingFor_0 : decode cX8_missingFor 0 = .ok (.iconst 0, 1) := by decide +kernel
theorem dX8_missingFor_1 : decode cX8_missingFor 1 = .ok (.aload_n 0, 1) := by decide +kernel
theorem dX8_missingFor_2 : decode cX8_missingFor 2 = .ok (.getfield 15, 3) := by decide +kernel
theorem dX8_missingFor_5 : decode cX8_missingFor 5 = .ok (.iload_n 2, 1) := by decide +kernel
theorem dX8_missingFor_6 : decode cX8_missingFor 6 = .ok (.iaload, 1) := by decide +kernel
theorem dX8_missingFor_7 : decode cX8_missingFor 7 = .ok (.aload_n 0, 1) := by decide +kernel
theorem dX8_missingFor_8 : decode cX8_missingFor 8 = .ok (.getfield 9, 3) := by decide +kernel
theorem dX8_missingFor_11 : decode cX8_missingFor 11 = .ok (.iload_n 2, 1) := by decide +kernel
theorem dX8_missingFor_12 : decode cX8_missingFor 12 = .ok (.iaload, 1) := by decide +kernel
theorem dX8_missingFor_13 : decode cX8_missingFor 13 = .ok (.isub, 1) := by decide +kernel
theorem dX8_missingFor_14 : decode cX8_missingFor 14 = .ok (.aload_n 0, 1) := by decide +kernel
theorem dX8_missingFor_15 : decode cX8_missingFor 15 = .ok (.getfield 18, 3) := by decide +kernel
theorem dX8_missingFor_18 : decode cX8_missingFor 18 = .ok (.iload_n 1, 1) := by decide +kernel
theorem dX8_missingFor_19 : decode cX8_missingFor 19 = .ok (.iaload, 1) := by decide +kernel
theorem dX8_missingFor_20 : decode cX8_missingFor 20 = .ok (.isub, 1) := by decide +kernel
theorem dX8_missingFor_21 : decode cX8_missingFor 21 = .ok (.invokestatic 88, 3) := by decide +kernel
theorem dX8_missingFor_24 : decode cX8_missingFor 24 = .ok (.ireturn, 1) := by decide +kernel
theorem dX8_lookOn_0 : decode cX8_lookOn 0 = .ok (.aload_n 0, 1) := by decide +kernel
theorem dX8_lookOn_1 : decode cX8_lookOn 1 = .ok (.getfield 21, 3) := by decide +kernel
theorem dX8_lookOn_4 : decode cX8_lookOn 4 = .ok (.iload_n 1, 1) := by decide +kernel
theorem dX8_lookOn_5 : decode cX8_lookOn 5 = .ok (.iconst 0, 1) := by decide +kernel
theorem dX8_lookOn_6 : decode cX8_lookOn 6 = .ok (.iastore, 1) := by decide +kernel
theorem dX8_lookOn_7 : decode cX8_lookOn 7 = .ok (.aload_n 0, 1) := by decide +kernel
theorem dX8_lookOn_8 : decode cX8_lookOn 8 = .ok (.getfield 24, 3) := by decide +kernel
theorem dX8_lookOn_11 : decode cX8_lookOn 11 = .ok (.iload_n 1, 1) := by decide +kernel
theorem dX8_lookOn_12 : decode cX8_lookOn 12 = .ok (.iconst 0, 1) := by decide +kernel
theorem dX8_lookOn_13 : decode cX8_lookOn 13 = .ok (.iastore, 1) := by decide +kernel
theorem dX8_lookOn_14 : decode cX8_lookOn 14 = .ok (.aload_n 0, 1) := by decide +kernel
theorem dX8_lookOn_15 : decode cX8_lookOn 15 = .ok (.getfield 27, 3) := by decide +kernel
theorem dX8_lookOn_18 : decode cX8_lookOn 18 = .ok (.iload_n 1, 1) := by decide +kernel
theorem dX8_lookOn_19 : decode cX8_lookOn 19 = .ok (.ldc 93, 2) := by decide +kernel
theorem dX8_lookOn_21 : decode cX8_lookOn 21 = .ok (.iastore, 1) := by decide +kernel
theorem dX8_lookOn_22 : decode cX8_lookOn 22 = .ok (.iconst 1, 1) := by decide +kernel
theorem dX8_lookOn_23 : decode cX8_lookOn 23 = .ok (.aload_n 0, 1) := by decide +kernel
theorem dX8_lookOn_24 : decode cX8_lookOn 24 = .ok (.getfield 42, 3) := by decide +kernel
theorem dX8_lookOn_27 : decode cX8_lookOn 27 = .ok (.ishl, 1) := by decide +kernel
theorem dX8_lookOn_28 : decode cX8_lookOn 28 = .ok (.iconst 1, 1) := by decide +kernel
theorem dX8_lookOn_29 : decode cX8_lookOn 29 = .ok (.isub, 1) := by decide +kernel
theorem dX8_lookOn_30 : decode cX8_lookOn 30 = .ok (.istore_n 2, 1) := by decide +kernel
theorem dX8_lookOn_31 : decode cX8_lookOn 31 = .ok (.iconst 0, 1) := by decide +kernel
theorem dX8_lookOn_32 : decode cX8_lookOn 32 = .ok (.istore_n 3, 1) := by decide +kernel
theorem dX8_lookOn_33 : decode cX8_lookOn 33 = .ok (.iload_n 3, 1) := by decide +kernel
theorem dX8_lookOn_34 : decode cX8_lookOn 34 = .ok (.aload_n 0, 1) := by decide +kernel
theorem dX8_lookOn_35 : decode cX8_lookOn 35 = .ok (.getfield 42, 3) := by decide +kernel
theorem dX8_lookOn_38 : decode cX8_lookOn 38 = .ok (.if_icmp .ge 109, 3) := by decide +kernel
theorem dX8_lookOn_41 : decode cX8_lookOn 41 = .ok (.iload_n 1, 1) := by decide +kernel
theorem dX8_lookOn_42 : decode cX8_lookOn 42 = .ok (.iconst 1, 1) := by decide +kernel
theorem dX8_lookOn_43 : decode cX8_lookOn 43 = .ok (.iload_n 3, 1) := by decide +kernel
theorem dX8_lookOn_44 : decode cX8_lookOn 44 = .ok (.ishl, 1) := by decide +kernel
theorem dX8_lookOn_45 : decode cX8_lookOn 45 = .ok (.ior, 1) := by decide +kernel
theorem dX8_lookOn_46 : decode cX8_lookOn 46 = .ok (.istore 4, 2) := by decide +kernel
theorem dX8_lookOn_48 : decode cX8_lookOn 48 = .ok (.iload 4, 2) := by decide +kernel
theorem dX8_lookOn_50 : decode cX8_lookOn 50 = .ok (.iload_n 1, 1) := by decide +kernel
theorem dX8_lookOn_51 : decode cX8_lookOn 51 = .ok (.if_icmp .ne 6, 3) := by decide +kernel
theorem dX8_lookOn_54 : decode cX8_lookOn 54 = .ok (.goto 87, 3) := by decide +kernel
theorem dX8_lookOn_57 : decode cX8_lookOn 57 = .ok (.aload_n 0, 1) := by decide +kernel
theorem dX8_lookOn_58 : decode cX8_lookOn 58 = .ok (.iload_n 1, 1) := by decide +kernel
theorem dX8_lookOn_59 : decode cX8_lookOn 59 = .ok (.iload_n 3, 1) := by decide +kernel
theorem dX8_lookOn_60 : decode cX8_lookOn 60 = .ok (.invokevirtual 94, 3) := by decide +kernel
theorem dX8_lookOn_63 : decode cX8_lookOn 63 = .ok (.istore 5, 2) := by decide +kernel
theorem dX8_lookOn_65 : decode cX8_lookOn 65 = .ok (.aload_n 0, 1) := by decide +kernel
theorem dX8_lookOn_66 : decode cX8_lookOn 66 = .ok (.getfield 27, 3) := by decide +kernel
theorem dX8_lookOn_69 : decode cX8_lookOn 69 = .ok (.iload_n 1, 1) := by decide +kernel
theorem dX8_lookOn_70 : decode cX8_lookOn 70 = .ok (.aload_n 0, 1) := by decide +kernel
theorem dX8_lookOn_71 : decode cX8_lookOn 71 = .ok (.getfield 27, 3) := by decide +kernel
theorem dX8_lookOn_74 : decode cX8_lookOn 74 = .ok (.iload_n 1, 1) := by decide +kernel
theorem dX8_lookOn_75 : decode cX8_lookOn 75 = .ok (.iaload, 1) := by decide +kernel
theorem dX8_lookOn_76 : decode cX8_lookOn 76 = .ok (.iload 5, 2) := by decide +kernel
theorem dX8_lookOn_78 : decode cX8_lookOn 78 = .ok (.aload_n 0, 1) := by decide +kernel
theorem dX8_lookOn_79 : decode cX8_lookOn 79 = .ok (.getfield 27, 3) := by decide +kernel
theorem dX8_lookOn_82 : decode cX8_lookOn 82 = .ok (.iload 4, 2) := by decide +kernel
theorem dX8_lookOn_84 : decode cX8_lookOn 84 = .ok (.iaload, 1) := by decide +kernel
theorem dX8_lookOn_85 : decode cX8_lookOn 85 = .ok (.invokestatic 88, 3) := by decide +kernel
theorem dX8_lookOn_88 : decode cX8_lookOn 88 = .ok (.invokestatic 97, 3) := by decide +kernel
theorem dX8_lookOn_91 : decode cX8_lookOn 91 = .ok (.iastore, 1) := by decide +kernel
theorem dX8_lookOn_92 : decode cX8_lookOn 92 = .ok (.iload 5, 2) := by decide +kernel
theorem dX8_lookOn_94 : decode cX8_lookOn 94 = .ok (.ifCond .ne 47, 3) := by decide +kernel
theorem dX8_lookOn_97 : decode cX8_lookOn 97 = .ok (.aload_n 0, 1) := by decide +kernel
theorem dX8_lookOn_98 : decode cX8_lookOn 98 = .ok (.getfield 21, 3) := by decide +kernel
theorem dX8_lookOn_101 : decode cX8_lookOn 101 = .ok (.iload_n 1, 1) := by decide +kernel
theorem dX8_lookOn_102 : decode cX8_lookOn 102 = .ok (.dup2, 1) := by decide +kernel
theorem dX8_lookOn_103 : decode cX8_lookOn 103 = .ok (.iaload, 1) := by decide +kernel
theorem dX8_lookOn_104 : decode cX8_lookOn 104 = .ok (.aload_n 0, 1) := by decide +kernel
theorem dX8_lookOn_105 : decode cX8_lookOn 105 = .ok (.getfield 21, 3) := by decide +kernel
theorem dX8_lookOn_108 : decode cX8_lookOn 108 = .ok (.iload 4, 2) := by decide +kernel
theorem dX8_lookOn_110 : decode cX8_lookOn 110 = .ok (.iaload, 1) := by decide +kernel
theorem dX8_lookOn_111 : decode cX8_lookOn 111 = .ok (.iadd, 1) := by decide +kernel
theorem dX8_lookOn_112 : decode cX8_lookOn 112 = .ok (.iastore, 1) := by decide +kernel
theorem dX8_lookOn_113 : decode cX8_lookOn 113 = .ok (.aload_n 0, 1) := by decide +kernel
theorem dX8_lookOn_114 : decode cX8_lookOn 114 = .ok (.getfield 24, 3) := by decide +kernel
theorem dX8_lookOn_117 : decode cX8_lookOn 117 = .ok (.iload_n 1, 1) := by decide +kernel
theorem dX8_lookOn_118 : decode cX8_lookOn 118 = .ok (.dup2, 1) := by decide +kernel
theorem dX8_lookOn_119 : decode cX8_lookOn 119 = .ok (.iaload, 1) := by decide +kernel
theorem dX8_lookOn_120 : decode cX8_lookOn 120 = .ok (.iload 4, 2) := by decide +kernel
theorem dX8_lookOn_122 : decode cX8_lookOn 122 = .ok (.iload_n 2, 1) := by decide +kernel
theorem dX8_lookOn_123 : decode cX8_lookOn 123 = .ok (.if_icmp .ne 9, 3) := by decide +kernel
theorem dX8_lookOn_126 : decode cX8_lookOn 126 = .ok (.iconst 1, 1) := by decide +kernel
theorem dX8_lookOn_127 : decode cX8_lookOn 127 = .ok (.iload_n 3, 1) := by decide +kernel
theorem dX8_lookOn_128 : decode cX8_lookOn 128 = .ok (.ishl, 1) := by decide +kernel
theorem dX8_lookOn_129 : decode cX8_lookOn 129 = .ok (.goto 10, 3) := by decide +kernel
theorem dX8_lookOn_132 : decode cX8_lookOn 132 = .ok (.aload_n 0, 1) := by decide +kernel
theorem dX8_lookOn_133 : decode cX8_lookOn 133 = .ok (.getfield 24, 3) := by decide +kernel
theorem dX8_lookOn_136 : decode cX8_lookOn 136 = .ok (.iload 4, 2) := by decide +kernel
theorem dX8_lookOn_138 : decode cX8_lookOn 138 = .ok (.iaload, 1) := by decide +kernel
theorem dX8_lookOn_139 : decode cX8_lookOn 139 = .ok (.ior, 1) := by decide +kernel
theorem dX8_lookOn_140 : decode cX8_lookOn 140 = .ok (.iastore, 1) := by decide +kernel
theorem dX8_lookOn_141 : decode cX8_lookOn 141 = .ok (.iinc 3 1, 3) := by decide +kernel
theorem dX8_lookOn_144 : decode cX8_lookOn 144 = .ok (.goto (-111), 3) := by decide +kernel
theorem dX8_lookOn_147 : decode cX8_lookOn 147 = .ok (.return_, 1) := by decide +kernel
theorem dX8_howManyOrders_0 : decode cX8_howManyOrders 0 = .ok (.aload_n 0, 1) := by decide +kernel
theorem dX8_howManyOrders_1 : decode cX8_howManyOrders 1 = .ok (.getfield 21, 3) := by decide +kernel
theorem dX8_howManyOrders_4 : decode cX8_howManyOrders 4 = .ok (.iconst 0, 1) := by decide +kernel
theorem dX8_howManyOrders_5 : decode cX8_howManyOrders 5 = .ok (.iaload, 1) := by decide +kernel
theorem dX8_howManyOrders_6 : decode cX8_howManyOrders 6 = .ok (.ireturn, 1) := by decide +kernel
theorem dX8_leastBrass_0 : decode cX8_leastBrass 0 = .ok (.aload_n 0, 1) := by decide +kernel
theorem dX8_leastBrass_1 : decode cX8_leastBrass 1 = .ok (.getfield 27, 3) := by decide +kernel
theorem dX8_leastBrass_4 : decode cX8_leastBrass 4 = .ok (.iconst 0, 1) := by decide +kernel
theorem dX8_leastBrass_5 : decode cX8_leastBrass 5 = .ok (.iaload, 1) := by decide +kernel
theorem dX8_leastBrass_6 : decode cX8_leastBrass 6 = .ok (.ireturn, 1) := by decide +kernel
theorem dX8_onlyLast_0 : decode cX8_onlyLast 0 = .ok (.iconst 0, 1) := by decide +kernel
theorem dX8_onlyLast_1 : decode cX8_onlyLast 1 = .ok (.istore_n 1, 1) := by decide +kernel
theorem dX8_onlyLast_2 : decode cX8_onlyLast 2 = .ok (.iload_n 1, 1) := by decide +kernel
theorem dX8_onlyLast_3 : decode cX8_onlyLast 3 = .ok (.aload_n 0, 1) := by decide +kernel
theorem dX8_onlyLast_4 : decode cX8_onlyLast 4 = .ok (.getfield 42, 3) := by decide +kernel
theorem dX8_onlyLast_7 : decode cX8_onlyLast 7 = .ok (.if_icmp .ge 23, 3) := by decide +kernel
theorem dX8_onlyLast_10 : decode cX8_onlyLast 10 = .ok (.aload_n 0, 1) := by decide +kernel
theorem dX8_onlyLast_11 : decode cX8_onlyLast 11 = .ok (.getfield 24, 3) := by decide +kernel
theorem dX8_onlyLast_14 : decode cX8_onlyLast 14 = .ok (.iconst 0, 1) := by decide +kernel
theorem dX8_onlyLast_15 : decode cX8_onlyLast 15 = .ok (.iaload, 1) := by decide +kernel
theorem dX8_onlyLast_16 : decode cX8_onlyLast 16 = .ok (.iconst 1, 1) := by decide +kernel
theorem dX8_onlyLast_17 : decode cX8_onlyLast 17 = .ok (.iload_n 1, 1) := by decide +kernel
theorem dX8_onlyLast_18 : decode cX8_onlyLast 18 = .ok (.ishl, 1) := by decide +kernel
theorem dX8_onlyLast_19 : decode cX8_onlyLast 19 = .ok (.if_icmp .ne 5, 3) := by decide +kernel
theorem dX8_onlyLast_22 : decode cX8_onlyLast 22 = .ok (.iload_n 1, 1) := by decide +kernel
theorem dX8_onlyLast_23 : decode cX8_onlyLast 23 = .ok (.ireturn, 1) := by decide +kernel
theorem dX8_onlyLast_24 : decode cX8_onlyLast 24 = .ok (.iinc 1 1, 3) := by decide +kernel
theorem dX8_onlyLast_27 : decode cX8_onlyLast 27 = .ok (.goto (-25), 3) := by decide +kernel
theorem dX8_onlyLast_30 : decode cX8_onlyLast 30 = .ok (.bipush (-6), 2) := by decide +kernel
theorem dX8_onlyLast_32 : decode cX8_onlyLast 32 = .ok (.ireturn, 1) := by decide +kernel
theorem dX8_firstOrderAt_0 : decode cX8_firstOrderAt 0 = .ok (.iload_n 1, 1) := by decide +kernel
theorem dX8_firstOrderAt_1 : decode cX8_firstOrderAt 1 = .ok (.ifCond .lt 20, 3) := by decide +kernel
theorem dX8_firstOrderAt_4 : decode cX8_firstOrderAt 4 = .ok (.iload_n 1, 1) := by decide +kernel
theorem dX8_firstOrderAt_5 : decode cX8_firstOrderAt 5 = .ok (.aload_n 0, 1) := by decide +kernel
theorem dX8_firstOrderAt_6 : decode cX8_firstOrderAt 6 = .ok (.getfield 42, 3) := by decide +kernel
theorem dX8_firstOrderAt_9 : decode cX8_firstOrderAt 9 = .ok (.if_icmp .ge 12, 3) := by decide +kernel
theorem dX8_firstOrderAt_12 : decode cX8_firstOrderAt 12 = .ok (.aload_n 0, 1) := by decide +kernel
theorem dX8_firstOrderAt_13 : decode cX8_firstOrderAt 13 = .ok (.getfield 21, 3) := by decide +kernel
theorem dX8_firstOrderAt_16 : decode cX8_firstOrderAt 16 = .ok (.iconst 0, 1) := by decide +kernel
theorem dX8_firstOrderAt_17 : decode cX8_firstOrderAt 17 = .ok (.iaload, 1) := by decide +kernel
theorem dX8_firstOrderAt_18 : decode cX8_firstOrderAt 18 = .ok (.ifCond .ne 6, 3) := by decide +kernel
theorem dX8_firstOrderAt_21 : decode cX8_firstOrderAt 21 = .ok (.bipush (-6), 2) := by decide +kernel
theorem dX8_firstOrderAt_23 : decode cX8_firstOrderAt 23 = .ok (.ireturn, 1) := by decide +kernel
theorem dX8_firstOrderAt_24 : decode cX8_firstOrderAt 24 = .ok (.iconst 0, 1) := by decide +kernel
theorem dX8_firstOrderAt_25 : decode cX8_firstOrderAt 25 = .ok (.istore_n 2, 1) := by decide +kernel
theorem dX8_firstOrderAt_26 : decode cX8_firstOrderAt 26 = .ok (.bipush (-6), 2) := by decide +kernel
theorem dX8_firstOrderAt_28 : decode cX8_firstOrderAt 28 = .ok (.istore_n 3, 1) := by decide +kernel
theorem dX8_firstOrderAt_29 : decode cX8_firstOrderAt 29 = .ok (.iconst 0, 1) := by decide +kernel
theorem dX8_firstOrderAt_30 : decode cX8_firstOrderAt 30 = .ok (.istore 4, 2) := by decide +kernel
theorem dX8_firstOrderAt_32 : decode cX8_firstOrderAt 32 = .ok (.iload 4, 2) := by decide +kernel
theorem dX8_firstOrderAt_34 : decode cX8_firstOrderAt 34 = .ok (.iload_n 1, 1) := by decide +kernel
theorem dX8_firstOrderAt_35 : decode cX8_firstOrderAt 35 = .ok (.if_icmp .gt 30, 3) := by decide +kernel
theorem dX8_firstOrderAt_38 : decode cX8_firstOrderAt 38 = .ok (.aload_n 0, 1) := by decide +kernel
theorem dX8_firstOrderAt_39 : decode cX8_firstOrderAt 39 = .ok (.iload_n 2, 1) := by decide +kernel
theorem dX8_firstOrderAt_40 : decode cX8_firstOrderAt 40 = .ok (.invokevirtual 100, 3) := by decide +kernel
theorem dX8_firstOrderAt_43 : decode cX8_firstOrderAt 43 = .ok (.istore_n 3, 1) := by decide +kernel
theorem dX8_firstOrderAt_44 : decode cX8_firstOrderAt 44 = .ok (.iload_n 3, 1) := by decide +kernel
theorem dX8_firstOrderAt_45 : decode cX8_firstOrderAt 45 = .ok (.bipush (-6), 2) := by decide +kernel
theorem dX8_firstOrderAt_47 : decode cX8_firstOrderAt 47 = .ok (.if_icmp .ne 6, 3) := by decide +kernel
theorem dX8_firstOrderAt_50 : decode cX8_firstOrderAt 50 = .ok (.bipush (-6), 2) := by decide +kernel
theorem dX8_firstOrderAt_52 : decode cX8_firstOrderAt 52 = .ok (.ireturn, 1) := by decide +kernel
theorem dX8_firstOrderAt_53 : decode cX8_firstOrderAt 53 = .ok (.iload_n 2, 1) := by decide +kernel
theorem dX8_firstOrderAt_54 : decode cX8_firstOrderAt 54 = .ok (.iconst 1, 1) := by decide +kernel
theorem dX8_firstOrderAt_55 : decode cX8_firstOrderAt 55 = .ok (.iload_n 3, 1) := by decide +kernel
theorem dX8_firstOrderAt_56 : decode cX8_firstOrderAt 56 = .ok (.ishl, 1) := by decide +kernel
theorem dX8_firstOrderAt_57 : decode cX8_firstOrderAt 57 = .ok (.ior, 1) := by decide +kernel
theorem dX8_firstOrderAt_58 : decode cX8_firstOrderAt 58 = .ok (.istore_n 2, 1) := by decide +kernel
theorem dX8_firstOrderAt_59 : decode cX8_firstOrderAt 59 = .ok (.iinc 4 1, 3) := by decide +kernel
theorem dX8_firstOrderAt_62 : decode cX8_firstOrderAt 62 = .ok (.goto (-30), 3) := by decide +kernel
theorem dX8_firstOrderAt_65 : decode cX8_firstOrderAt 65 = .ok (.iload_n 3, 1) := by decide +kernel
theorem dX8_firstOrderAt_66 : decode cX8_firstOrderAt 66 = .ok (.ireturn, 1) := by decide +kernel
theorem dX8_leastNext_0 : decode cX8_leastNext 0 = .ok (.iconst 0, 1) := by decide +kernel
theorem dX8_leastNext_1 : decode cX8_leastNext 1 = .ok (.istore_n 2, 1) := by decide +kernel
theorem dX8_leastNext_2 : decode cX8_leastNext 2 = .ok (.iload_n 2, 1) := by decide +kernel
theorem dX8_leastNext_3 : decode cX8_leastNext 3 = .ok (.aload_n 0, 1) := by decide +kernel
theorem dX8_leastNext_4 : decode cX8_leastNext 4 = .ok (.getfield 42, 3) := by decide +kernel
theorem dX8_leastNext_7 : decode cX8_leastNext 7 = .ok (.if_icmp .ge 40, 3) := by decide +kernel
theorem dX8_leastNext_10 : decode cX8_leastNext 10 = .ok (.iload_n 1, 1) := by decide +kernel
theorem dX8_leastNext_11 : decode cX8_leastNext 11 = .ok (.iconst 1, 1) := by decide +kernel
theorem dX8_leastNext_12 : decode cX8_leastNext 12 = .ok (.iload_n 2, 1) := by decide +kernel
theorem dX8_leastNext_13 : decode cX8_leastNext 13 = .ok (.ishl, 1) := by decide +kernel
theorem dX8_leastNext_14 : decode cX8_leastNext 14 = .ok (.ior, 1) := by decide +kernel
theorem dX8_leastNext_15 : decode cX8_leastNext 15 = .ok (.istore_n 3, 1) := by decide +kernel
theorem dX8_leastNext_16 : decode cX8_leastNext 16 = .ok (.iload_n 3, 1) := by decide +kernel
theorem dX8_leastNext_17 : decode cX8_leastNext 17 = .ok (.iload_n 1, 1) := by decide +kernel
theorem dX8_leastNext_18 : decode cX8_leastNext 18 = .ok (.if_icmp .eq 23, 3) := by decide +kernel
theorem dX8_leastNext_21 : decode cX8_leastNext 21 = .ok (.aload_n 0, 1) := by decide +kernel
theorem dX8_leastNext_22 : decode cX8_leastNext 22 = .ok (.iload_n 1, 1) := by decide +kernel
theorem dX8_leastNext_23 : decode cX8_leastNext 23 = .ok (.iload_n 2, 1) := by decide +kernel
theorem dX8_leastNext_24 : decode cX8_leastNext 24 = .ok (.invokevirtual 94, 3) := by decide +kernel
theorem dX8_leastNext_27 : decode cX8_leastNext 27 = .ok (.ifCond .ne 14, 3) := by decide +kernel
theorem dX8_leastNext_30 : decode cX8_leastNext 30 = .ok (.aload_n 0, 1) := by decide +kernel
theorem dX8_leastNext_31 : decode cX8_leastNext 31 = .ok (.getfield 21, 3) := by decide +kernel
theorem dX8_leastNext_34 : decode cX8_leastNext 34 = .ok (.iload_n 3, 1) := by decide +kernel
theorem dX8_leastNext_35 : decode cX8_leastNext 35 = .ok (.iaload, 1) := by decide +kernel
theorem dX8_leastNext_36 : decode cX8_leastNext 36 = .ok (.ifCond .le 5, 3) := by decide +kernel
theorem dX8_leastNext_39 : decode cX8_leastNext 39 = .ok (.iload_n 2, 1) := by decide +kernel
theorem dX8_leastNext_40 : decode cX8_leastNext 40 = .ok (.ireturn, 1) := by decide +kernel
theorem dX8_leastNext_41 : decode cX8_leastNext 41 = .ok (.iinc 2 1, 3) := by decide +kernel
theorem dX8_leastNext_44 : decode cX8_leastNext 44 = .ok (.goto (-42), 3) := by decide +kernel
theorem dX8_leastNext_47 : decode cX8_leastNext 47 = .ok (.bipush (-6), 2) := by decide +kernel
theorem dX8_leastNext_49 : decode cX8_leastNext 49 = .ok (.ireturn, 1) := by decide +kernel
theorem dX9_isRow_0 : decode cX9_isRow 0 = .ok (.iload_n 0, 1) := by decide +kernel
theorem dX9_isRow_1 : decode cX9_isRow 1 = .ok (.ifCond .lt 14, 3) := by decide +kernel
theorem dX9_isRow_4 : decode cX9_isRow 4 = .ok (.iload_n 0, 1) := by decide +kernel
theorem dX9_isRow_5 : decode cX9_isRow 5 = .ok (.sipush 9999, 3) := by decide +kernel
theorem dX9_isRow_8 : decode cX9_isRow 8 = .ok (.if_icmp .gt 7, 3) := by decide +kernel
theorem dX9_isRow_11 : decode cX9_isRow 11 = .ok (.iconst 1, 1) := by decide +kernel
theorem dX9_isRow_12 : decode cX9_isRow 12 = .ok (.goto 4, 3) := by decide +kernel
theorem dX9_isRow_15 : decode cX9_isRow 15 = .ok (.iconst 0, 1) := by decide +kernel
theorem dX9_isRow_16 : decode cX9_isRow 16 = .ok (.ireturn, 1) := by decide +kernel
theorem dX9_canBeKey_0 : decode cX9_canBeKey 0 = .ok (.iload_n 0, 1) := by decide +kernel
theorem dX9_canBeKey_1 : decode cX9_canBeKey 1 = .ok (.bipush 10, 2) := by decide +kernel
theorem dX9_canBeKey_3 : decode cX9_canBeKey 3 = .ok (.irem, 1) := by decide +kernel
theorem dX9_canBeKey_4 : decode cX9_canBeKey 4 = .ok (.istore_n 2, 1) := by decide +kernel
theorem dX9_canBeKey_5 : decode cX9_canBeKey 5 = .ok (.iload_n 0, 1) := by decide +kernel
theorem dX9_canBeKey_6 : decode cX9_canBeKey 6 = .ok (.bipush 10, 2) := by decide +kernel
theorem dX9_canBeKey_8 : decode cX9_canBeKey 8 = .ok (.idiv, 1) := by decide +kernel
theorem dX9_canBeKey_9 : decode cX9_canBeKey 9 = .ok (.istore_n 3, 1) := by decide +kernel
theorem dX9_canBeKey_10 : decode cX9_canBeKey 10 = .ok (.iconst 1, 1) := by decide +kernel
theorem dX9_canBeKey_11 : decode cX9_canBeKey 11 = .ok (.istore 4, 2) := by decide +kernel
theorem dX9_canBeKey_13 : decode cX9_canBeKey 13 = .ok (.iload 4, 2) := by decide +kernel
theorem dX9_canBeKey_15 : decode cX9_canBeKey 15 = .ok (.iconst 4, 1) := by decide +kernel
theorem dX9_canBeKey_16 : decode cX9_canBeKey 16 = .ok (.if_icmp .ge 36, 3) := by decide +kernel
theorem dX9_canBeKey_19 : decode cX9_canBeKey 19 = .ok (.iload_n 3, 1) := by decide +kernel
theorem dX9_canBeKey_20 : decode cX9_canBeKey 20 = .ok (.bipush 10, 2) := by decide +kernel
theorem dX9_canBeKey_22 : decode cX9_canBeKey 22 = .ok (.irem, 1) := by decide +kernel
theorem dX9_canBeKey_23 : decode cX9_canBeKey 23 = .ok (.istore 5, 2) := by decide +kernel
theorem dX9_canBeKey_25 : decode cX9_canBeKey 25 = .ok (.iload 5, 2) := by decide +kernel
theorem dX9_canBeKey_27 : decode cX9_canBeKey 27 = .ok (.iload_n 2, 1) := by decide +kernel
theorem dX9_canBeKey_28 : decode cX9_canBeKey 28 = .ok (.isub, 1) := by decide +kernel
theorem dX9_canBeKey_29 : decode cX9_canBeKey 29 = .ok (.invokestatic 9, 3) := by decide +kernel
theorem dX9_canBeKey_32 : decode cX9_canBeKey 32 = .ok (.iload_n 1, 1) := by decide +kernel
theorem dX9_canBeKey_33 : decode cX9_canBeKey 33 = .ok (.if_icmp .le 5, 3) := by decide +kernel
theorem dX9_canBeKey_36 : decode cX9_canBeKey 36 = .ok (.iconst 0, 1) := by decide +kernel
theorem dX9_canBeKey_37 : decode cX9_canBeKey 37 = .ok (.ireturn, 1) := by decide +kernel
theorem dX9_canBeKey_38 : decode cX9_canBeKey 38 = .ok (.iload 5, 2) := by decide +kernel
theorem dX9_canBeKey_40 : decode cX9_canBeKey 40 = .ok (.istore_n 2, 1) := by decide +kernel
theorem dX9_canBeKey_41 : decode cX9_canBeKey 41 = .ok (.iload_n 3, 1) := by decide +kernel
theorem dX9_canBeKey_42 : decode cX9_canBeKey 42 = .ok (.bipush 10, 2) := by decide +kernel
theorem dX9_canBeKey_44 : decode cX9_canBeKey 44 = .ok (.idiv, 1) := by decide +kernel
theorem dX9_canBeKey_45 : decode cX9_canBeKey 45 = .ok (.istore_n 3, 1) := by decide +kernel
theorem dX9_canBeKey_46 : decode cX9_canBeKey 46 = .ok (.iinc 4 1, 3) := by decide +kernel
theorem dX9_canBeKey_49 : decode cX9_canBeKey 49 = .ok (.goto (-36), 3) := by decide +kernel
theorem dX9_canBeKey_52 : decode cX9_canBeKey 52 = .ok (.iconst 1, 1) := by decide +kernel
theorem dX9_canBeKey_53 : decode cX9_canBeKey 53 = .ok (.ireturn, 1) := by decide +kernel
theorem dX9_sumOfDepths_0 : decode cX9_sumOfDepths 0 = .ok (.iconst 0, 1) := by decide +kernel
theorem dX9_sumOfDepths_1 : decode cX9_sumOfDepths 1 = .ok (.istore_n 1, 1) := by decide +kernel
theorem dX9_sumOfDepths_2 : decode cX9_sumOfDepths 2 = .ok (.iload_n 0, 1) := by decide +kernel
theorem dX9_sumOfDepths_3 : decode cX9_sumOfDepths 3 = .ok (.istore_n 2, 1) := by decide +kernel
theorem dX9_sumOfDepths_4 : decode cX9_sumOfDepths 4 = .ok (.iconst 0, 1) := by decide +kernel
theorem dX9_sumOfDepths_5 : decode cX9_sumOfDepths 5 = .ok (.istore_n 3, 1) := by decide +kernel
theorem dX9_sumOfDepths_6 : decode cX9_sumOfDepths 6 = .ok (.iload_n 3, 1) := by decide +kernel
theorem dX9_sumOfDepths_7 : decode cX9_sumOfDepths 7 = .ok (.iconst 4, 1) := by decide +kernel
theorem dX9_sumOfDepths_8 : decode cX9_sumOfDepths 8 = .ok (.if_icmp .ge 21, 3) := by decide +kernel
theorem dX9_sumOfDepths_11 : decode cX9_sumOfDepths 11 = .ok (.iload_n 1, 1) := by decide +kernel
theorem dX9_sumOfDepths_12 : decode cX9_sumOfDepths 12 = .ok (.iload_n 2, 1) := by decide +kernel
theorem dX9_sumOfDepths_13 : decode cX9_sumOfDepths 13 = .ok (.bipush 10, 2) := by decide +kernel
theorem dX9_sumOfDepths_15 : decode cX9_sumOfDepths 15 = .ok (.irem, 1) := by decide +kernel
theorem dX9_sumOfDepths_16 : decode cX9_sumOfDepths 16 = .ok (.iadd, 1) := by decide +kernel
theorem dX9_sumOfDepths_17 : decode cX9_sumOfDepths 17 = .ok (.istore_n 1, 1) := by decide +kernel
theorem dX9_sumOfDepths_18 : decode cX9_sumOfDepths 18 = .ok (.iload_n 2, 1) := by decide +kernel
theorem dX9_sumOfDepths_19 : decode cX9_sumOfDepths 19 = .ok (.bipush 10, 2) := by decide +kernel
theorem dX9_sumOfDepths_21 : decode cX9_sumOfDepths 21 = .ok (.idiv, 1) := by decide +kernel
theorem dX9_sumOfDepths_22 : decode cX9_sumOfDepths 22 = .ok (.istore_n 2, 1) := by decide +kernel
theorem dX9_sumOfDepths_23 : decode cX9_sumOfDepths 23 = .ok (.iinc 3 1, 3) := by decide +kernel
theorem dX9_sumOfDepths_26 : decode cX9_sumOfDepths 26 = .ok (.goto (-20), 3) := by decide +kernel
theorem dX9_sumOfDepths_29 : decode cX9_sumOfDepths 29 = .ok (.iload_n 1, 1) := by decide +kernel
theorem dX9_sumOfDepths_30 : decode cX9_sumOfDepths 30 = .ok (.ireturn, 1) := by decide +kernel
theorem dX9_lockWeight_0 : decode cX9_lockWeight 0 = .ok (.iconst 4, 1) := by decide +kernel
theorem dX9_lockWeight_1 : decode cX9_lockWeight 1 = .ok (.iload_n 0, 1) := by decide +kernel
theorem dX9_lockWeight_2 : decode cX9_lockWeight 2 = .ok (.invokestatic 15, 3) := by decide +kernel
theorem dX9_lockWeight_5 : decode cX9_lockWeight 5 = .ok (.iadd, 1) := by decide +kernel
theorem dX9_lockWeight_6 : decode cX9_lockWeight 6 = .ok (.istore_n 2, 1) := by decide +kernel
theorem dX9_lockWeight_7 : decode cX9_lockWeight 7 = .ok (.iload_n 0, 1) := by decide +kernel
theorem dX9_lockWeight_8 : decode cX9_lockWeight 8 = .ok (.istore_n 3, 1) := by decide +kernel
theorem dX9_lockWeight_9 : decode cX9_lockWeight 9 = .ok (.iload_n 1, 1) := by decide +kernel
theorem dX9_lockWeight_10 : decode cX9_lockWeight 10 = .ok (.istore 4, 2) := by decide +kernel
theorem dX9_lockWeight_12 : decode cX9_lockWeight 12 = .ok (.iconst 0, 1) := by decide +kernel
theorem dX9_lockWeight_13 : decode cX9_lockWeight 13 = .ok (.istore 5, 2) := by decide +kernel
theorem dX9_lockWeight_15 : decode cX9_lockWeight 15 = .ok (.iload 5, 2) := by decide +kernel
theorem dX9_lockWeight_17 : decode cX9_lockWeight 17 = .ok (.iconst 4, 1) := by decide +kernel
theorem dX9_lockWeight_18 : decode cX9_lockWeight 18 = .ok (.if_icmp .ge 36, 3) := by decide +kernel
theorem dX9_lockWeight_21 : decode cX9_lockWeight 21 = .ok (.iload_n 3, 1) := by decide +kernel
theorem dX9_lockWeight_22 : decode cX9_lockWeight 22 = .ok (.bipush 10, 2) := by decide +kernel
theorem dX9_lockWeight_24 : decode cX9_lockWeight 24 = .ok (.irem, 1) := by decide +kernel
theorem dX9_lockWeight_25 : decode cX9_lockWeight 25 = .ok (.iload 4, 2) := by decide +kernel
theorem dX9_lockWeight_27 : decode cX9_lockWeight 27 = .ok (.bipush 10, 2) := by decide +kernel
theorem dX9_lockWeight_29 : decode cX9_lockWeight 29 = .ok (.irem, 1) := by decide +kernel
theorem dX9_lockWeight_30 : decode cX9_lockWeight 30 = .ok (.if_icmp .eq 6, 3) := by decide +kernel
theorem dX9_lockWeight_33 : decode cX9_lockWeight 33 = .ok (.iinc 2 1, 3) := by decide +kernel
theorem dX9_lockWeight_36 : decode cX9_lockWeight 36 = .ok (.iload_n 3, 1) := by decide +kernel
theorem dX9_lockWeight_37 : decode cX9_lockWeight 37 = .ok (.bipush 10, 2) := by decide +kernel
theorem dX9_lockWeight_39 : decode cX9_lockWeight 39 = .ok (.idiv, 1) := by decide +kernel
theorem dX9_lockWeight_40 : decode cX9_lockWeight 40 = .ok (.istore_n 3, 1) := by decide +kernel
theorem dX9_lockWeight_41 : decode cX9_lockWeight 41 = .ok (.iload 4, 2) := by decide +kernel
theorem dX9_lockWeight_43 : decode cX9_lockWeight 43 = .ok (.bipush 10, 2) := by decide +kernel
theorem dX9_lockWeight_45 : decode cX9_lockWeight 45 = .ok (.idiv, 1) := by decide +kernel
theorem dX9_lockWeight_46 : decode cX9_lockWeight 46 = .ok (.istore 4, 2) := by decide +kernel
theorem dX9_lockWeight_48 : decode cX9_lockWeight 48 = .ok (.iinc 5 1, 3) := by decide +kernel
theorem dX9_lockWeight_51 : decode cX9_lockWeight 51 = .ok (.goto (-36), 3) := by decide +kernel
theorem dX9_lockWeight_54 : decode cX9_lockWeight 54 = .ok (.iload_n 2, 1) := by decide +kernel
theorem dX9_lockWeight_55 : decode cX9_lockWeight 55 = .ok (.ireturn, 1) := by decide +kernel
theorem dX9_lossOf_0 : decode cX9_lossOf 0 = .ok (.iload_n 0, 1) := by decide +kernel
theorem dX9_lossOf_1 : decode cX9_lossOf 1 = .ok (.iload_n 1, 1) := by decide +kernel
theorem dX9_lossOf_2 : decode cX9_lossOf 2 = .ok (.imul, 1) := by decide +kernel
theorem dX9_lossOf_3 : decode cX9_lossOf 3 = .ok (.bipush 99, 2) := by decide +kernel
theorem dX9_lossOf_5 : decode cX9_lossOf 5 = .ok (.iadd, 1) := by decide +kernel
theorem dX9_lossOf_6 : decode cX9_lossOf 6 = .ok (.bipush 100, 2) := by decide +kernel
theorem dX9_lossOf_8 : decode cX9_lossOf 8 = .ok (.idiv, 1) := by decide +kernel
theorem dX9_lossOf_9 : decode cX9_lossOf 9 = .ok (.ireturn, 1) := by decide +kernel
theorem dX10_init_0 : decode cX10_init 0 = .ok (.aload_n 0, 1) := by decide +kernel
theorem dX10_init_1 : decode cX10_init 1 = .ok (.invokespecial 3, 3) := by decide +kernel
theorem dX10_init_4 : decode cX10_init 4 = .ok (.aload_n 0, 1) := by decide +kernel
theorem dX10_init_5 : decode cX10_init 5 = .ok (.bipush 10, 2) := by decide +kernel
theorem dX10_init_7 : decode cX10_init 7 = .ok (.newarray .int, 2) := by decide +kernel
theorem dX10_init_9 : decode cX10_init 9 = .ok (.putfield 9, 3) := by decide +kernel
theorem dX10_init_12 : decode cX10_init 12 = .ok (.aload_n 0, 1) := by decide +kernel
theorem dX10_init_13 : decode cX10_init 13 = .ok (.bipush 8, 2) := by decide +kernel
theorem dX10_init_15 : decode cX10_init 15 = .ok (.newarray .int, 2) := by decide +kernel
theorem dX10_init_17 : decode cX10_init 17 = .ok (.putfield 15, 3) := by decide +kernel
theorem dX10_init_20 : decode cX10_init 20 = .ok (.aload_n 0, 1) := by decide +kernel
theorem dX10_init_21 : decode cX10_init 21 = .ok (.sipush 2048, 3) := by decide +kernel
theorem dX10_init_24 : decode cX10_init 24 = .ok (.newarray .int, 2) := by decide +kernel
theorem dX10_init_26 : decode cX10_init 26 = .ok (.putfield 18, 3) := by decide +kernel
theorem dX10_init_29 : decode cX10_init 29 = .ok (.aload_n 0, 1) := by decide +kernel
theorem dX10_init_30 : decode cX10_init 30 = .ok (.sipush 2048, 3) := by decide +kernel
theorem dX10_init_33 : decode cX10_init 33 = .ok (.newarray .boolean, 2) := by decide +kernel
theorem dX10_init_35 : decode cX10_init 35 = .ok (.putfield 21, 3) := by decide +kernel
theorem dX10_init_38 : decode cX10_init 38 = .ok (.return_, 1) := by decide +kernel
theorem dX10_work_0 : decode cX10_work 0 = .ok (.aload_n 0, 1) := by decide +kernel
theorem dX10_work_1 : decode cX10_work 1 = .ok (.aload_n 1, 1) := by decide +kernel
theorem dX10_work_2 : decode cX10_work 2 = .ok (.bipush 8, 2) := by decide +kernel
theorem dX10_work_4 : decode cX10_work 4 = .ok (.invokevirtual 25, 3) := by decide +kernel
theorem dX10_work_7 : decode cX10_work 7 = .ok (.putfield 31, 3) := by decide +kernel
theorem dX10_work_10 : decode cX10_work 10 = .ok (.iconst 0, 1) := by decide +kernel
theorem dX10_work_11 : decode cX10_work 11 = .ok (.istore_n 2, 1) := by decide +kernel
theorem dX10_work_12 : decode cX10_work 12 = .ok (.iload_n 2, 1) := by decide +kernel
theorem dX10_work_13 : decode cX10_work 13 = .ok (.aload_n 1, 1) := by decide +kernel
theorem dX10_work_14 : decode cX10_work 14 = .ok (.getfield 35, 3) := by decide +kernel
theorem dX10_work_17 : decode cX10_work 17 = .ok (.if_icmp .ge 20, 3) := by decide +kernel
theorem dX10_work_20 : decode cX10_work 20 = .ok (.aload_n 0, 1) := by decide +kernel
theorem dX10_work_21 : decode cX10_work 21 = .ok (.getfield 9, 3) := by decide +kernel
theorem dX10_work_24 : decode cX10_work 24 = .ok (.iload_n 2, 1) := by decide +kernel
theorem dX10_work_25 : decode cX10_work 25 = .ok (.aload_n 1, 1) := by decide +kernel
theorem dX10_work_26 : decode cX10_work 26 = .ok (.iload_n 2, 1) := by decide +kernel
theorem dX10_work_27 : decode cX10_work 27 = .ok (.invokevirtual 38, 3) := by decide +kernel
theorem dX10_work_30 : decode cX10_work 30 = .ok (.iastore, 1) := by decide +kernel
theorem dX10_work_31 : decode cX10_work 31 = .ok (.iinc 2 1, 3) := by decide +kernel
theorem dX10_work_34 : decode cX10_work 34 = .ok (.goto (-22), 3) := by decide +kernel
theorem dX10_work_37 : decode cX10_work 37 = .ok (.iconst 0, 1) := by decide +kernel
theorem dX10_work_38 : decode cX10_work 38 = .ok (.istore_n 2, 1) := by decide +kernel
theorem dX10_work_39 : decode cX10_work 39 = .ok (.iload_n 2, 1) := by decide +kernel
theorem dX10_work_40 : decode cX10_work 40 = .ok (.bipush 8, 2) := by decide +kernel
theorem dX10_work_42 : decode cX10_work 42 = .ok (.if_icmp .ge 20, 3) := by decide +kernel
theorem dX10_work_45 : decode cX10_work 45 = .ok (.aload_n 0, 1) := by decide +kernel
theorem dX10_work_46 : decode cX10_work 46 = .ok (.getfield 15, 3) := by decide +kernel
theorem dX10_work_49 : decode cX10_work 49 = .ok (.iload_n 2, 1) := by decide +kernel
theorem dX10_work_50 : decode cX10_work 50 = .ok (.aload_n 1, 1) := by decide +kernel
theorem dX10_work_51 : decode cX10_work 51 = .ok (.iload_n 2, 1) := by decide +kernel
theorem dX10_work_52 : decode cX10_work 52 = .ok (.invokevirtual 25, 3) := by decide +kernel
theorem dX10_work_55 : decode cX10_work 55 = .ok (.iastore, 1) := by decide +kernel
theorem dX10_work_56 : decode cX10_work 56 = .ok (.iinc 2 1, 3) := by decide +kernel
theorem dX10_work_59 : decode cX10_work 59 = .ok (.goto (-20), 3) := by decide +kernel
theorem dX10_work_62 : decode cX10_work 62 = .ok (.return_, 1) := by decide +kernel
theorem dX10_keysAfter_0 : decode cX10_keysAfter 0 = .ok (.aload_n 0, 1) := by decide +kernel
theorem dX10_keysAfter_1 : decode cX10_keysAfter 1 = .ok (.getfield 31, 3) := by decide +kernel
theorem dX10_keysAfter_4 : decode cX10_keysAfter 4 = .ok (.istore_n 2, 1) := by decide +kernel
theorem dX10_keysAfter_5 : decode cX10_keysAfter 5 = .ok (.iconst 0, 1) := by decide +kernel
theorem dX10_keysAfter_6 : decode cX10_keysAfter 6 = .ok (.istore_n 3, 1) := by decide +kernel
theorem dX10_keysAfter_7 : decode cX10_keysAfter 7 = .ok (.iload_n 3, 1) := by decide +kernel
theorem dX10_keysAfter_8 : decode cX10_keysAfter 8 = .ok (.bipush 8, 2) := by decide +kernel
theorem dX10_keysAfter_10 : decode cX10_keysAfter 10 = .ok (.if_icmp .ge 26, 3) := by decide +kernel
theorem dX10_keysAfter_13 : decode cX10_keysAfter 13 = .ok (.iload_n 1, 1) := by decide +kernel
theorem dX10_keysAfter_14 : decode cX10_keysAfter 14 = .ok (.iload_n 3, 1) := by decide +kernel
theorem dX10_keysAfter_15 : decode cX10_keysAfter 15 = .ok (.ishr, 1) := by decide +kernel
theorem dX10_keysAfter_16 : decode cX10_keysAfter 16 = .ok (.iconst 1, 1) := by decide +kernel
theorem dX10_keysAfter_17 : decode cX10_keysAfter 17 = .ok (.iand, 1) := by decide +kernel
theorem dX10_keysAfter_18 : decode cX10_keysAfter 18 = .ok (.ifCond .eq 12, 3) := by decide +kernel
theorem dX10_keysAfter_21 : decode cX10_keysAfter 21 = .ok (.iload_n 2, 1) := by decide +kernel
theorem dX10_keysAfter_22 : decode cX10_keysAfter 22 = .ok (.aload_n 0, 1) := by decide +kernel
theorem dX10_keysAfter_23 : decode cX10_keysAfter 23 = .ok (.getfield 15, 3) := by decide +kernel
theorem dX10_keysAfter_26 : decode cX10_keysAfter 26 = .ok (.iload_n 3, 1) := by decide +kernel
theorem dX10_keysAfter_27 : decode cX10_keysAfter 27 = .ok (.iaload, 1) := by decide +kernel
theorem dX10_keysAfter_28 : decode cX10_keysAfter 28 = .ok (.ior, 1) := by decide +kernel
theorem dX10_keysAfter_29 : decode cX10_keysAfter 29 = .ok (.istore_n 2, 1) := by decide +kernel
theorem dX10_keysAfter_30 : decode cX10_keysAfter 30 = .ok (.iinc 3 1, 3) := by decide +kernel
theorem dX10_keysAfter_33 : decode cX10_keysAfter 33 = .ok (.goto (-26), 3) := by decide +kernel
theorem dX10_keysAfter_36 : decode cX10_keysAfter 36 = .ok (.iload_n 2, 1) := by decide +kernel
theorem dX10_keysAfter_37 : decode cX10_keysAfter 37 = .ok (.ireturn, 1) := by decide +kernel
theorem dX10_roomsInReach_0 : decode cX10_roomsInReach 0 = .ok (.aload_n 0, 1) := by decide +kernel
theorem dX10_roomsInReach_1 : decode cX10_roomsInReach 1 = .ok (.aload_n 1, 1) := by decide +kernel
theorem dX10_roomsInReach_2 : decode cX10_roomsInReach 2 = .ok (.invokevirtual 41, 3) := by decide +kernel
theorem dX10_roomsInReach_5 : decode cX10_roomsInReach 5 = .ok (.iconst 1, 1) := by decide +kernel
theorem dX10_roomsInReach_6 : decode cX10_roomsInReach 6 = .ok (.aload_n 1, 1) := by decide +kernel
theorem dX10_roomsInReach_7 : decode cX10_roomsInReach 7 = .ok (.getfield 45, 3) := by decide +kernel
theorem dX10_roomsInReach_10 : decode cX10_roomsInReach 10 = .ok (.ishl, 1) := by decide +kernel
theorem dX10_roomsInReach_11 : decode cX10_roomsInReach 11 = .ok (.istore_n 2, 1) := by decide +kernel
theorem dX10_roomsInReach_12 : decode cX10_roomsInReach 12 = .ok (.iconst 0, 1) := by decide +kernel
theorem dX10_roomsInReach_13 : decode cX10_roomsInReach 13 = .ok (.istore_n 3, 1) := by decide +kernel
theorem dX10_roomsInReach_14 : decode cX10_roomsInReach 14 = .ok (.iload_n 3, 1) := by decide +kernel
theorem dX10_roomsInReach_15 : decode cX10_roomsInReach 15 = .ok (.bipush 8, 2) := by decide +kernel
theorem dX10_roomsInReach_17 : decode cX10_roomsInReach 17 = .ok (.if_icmp .ge 18, 3) := by decide +kernel
theorem dX10_roomsInReach_20 : decode cX10_roomsInReach 20 = .ok (.iload_n 2, 1) := by decide +kernel
theorem dX10_roomsInReach_21 : decode cX10_roomsInReach 21 = .ok (.aload_n 0, 1) := by decide +kernel
theorem dX10_roomsInReach_22 : decode cX10_roomsInReach 22 = .ok (.aload_n 1, 1) := by decide +kernel
theorem dX10_roomsInReach_23 : decode cX10_roomsInReach 23 = .ok (.iload_n 2, 1) := by decide +kernel
theorem dX10_roomsInReach_24 : decode cX10_roomsInReach 24 = .ok (.invokevirtual 48, 3) := by decide +kernel
theorem dX10_roomsInReach_27 : decode cX10_roomsInReach 27 = .ok (.ior, 1) := by decide +kernel
theorem dX10_roomsInReach_28 : decode cX10_roomsInReach 28 = .ok (.istore_n 2, 1) := by decide +kernel
theorem dX10_roomsInReach_29 : decode cX10_roomsInReach 29 = .ok (.iinc 3 1, 3) := by decide +kernel
theorem dX10_roomsInReach_32 : decode cX10_roomsInReach 32 = .ok (.goto (-18), 3) := by decide +kernel
theorem dX10_roomsInReach_35 : decode cX10_roomsInReach 35 = .ok (.iload_n 2, 1) := by decide +kernel
theorem dX10_roomsInReach_36 : decode cX10_roomsInReach 36 = .ok (.ireturn, 1) := by decide +kernel
theorem dX10_roomsBeyond_0 : decode cX10_roomsBeyond 0 = .ok (.aload_n 0, 1) := by decide +kernel
theorem dX10_roomsBeyond_1 : decode cX10_roomsBeyond 1 = .ok (.iload_n 2, 1) := by decide +kernel
theorem dX10_roomsBeyond_2 : decode cX10_roomsBeyond 2 = .ok (.invokevirtual 52, 3) := by decide +kernel
theorem dX10_roomsBeyond_5 : decode cX10_roomsBeyond 5 = .ok (.istore_n 3, 1) := by decide +kernel
theorem dX10_roomsBeyond_6 : decode cX10_roomsBeyond 6 = .ok (.iconst 0, 1) := by decide +kernel
theorem dX10_roomsBeyond_7 : decode cX10_roomsBeyond 7 = .ok (.istore 4, 2) := by decide +kernel
theorem dX10_roomsBeyond_9 : decode cX10_roomsBeyond 9 = .ok (.iconst 0, 1) := by decide +kernel
theorem dX10_roomsBeyond_10 : decode cX10_roomsBeyond 10 = .ok (.istore 5, 2) := by decide +kernel
theorem dX10_roomsBeyond_12 : decode cX10_roomsBeyond 12 = .ok (.iload 5, 2) := by decide +kernel
theorem dX10_roomsBeyond_14 : decode cX10_roomsBeyond 14 = .ok (.aload_n 1, 1) := by decide +kernel
theorem dX10_roomsBeyond_15 : decode cX10_roomsBeyond 15 = .ok (.getfield 35, 3) := by decide +kernel
theorem dX10_roomsBeyond_18 : decode cX10_roomsBeyond 18 = .ok (.if_icmp .ge 62, 3) := by decide +kernel
theorem dX10_roomsBeyond_21 : decode cX10_roomsBeyond 21 = .ok (.iconst 1, 1) := by decide +kernel
theorem dX10_roomsBeyond_22 : decode cX10_roomsBeyond 22 = .ok (.aload_n 1, 1) := by decide +kernel
theorem dX10_roomsBeyond_23 : decode cX10_roomsBeyond 23 = .ok (.getfield 55, 3) := by decide +kernel
theorem dX10_roomsBeyond_26 : decode cX10_roomsBeyond 26 = .ok (.iload 5, 2) := by decide +kernel
theorem dX10_roomsBeyond_28 : decode cX10_roomsBeyond 28 = .ok (.aaload, 1) := by decide +kernel
theorem dX10_roomsBeyond_29 : decode cX10_roomsBeyond 29 = .ok (.getfield 59, 3) := by decide +kernel
theorem dX10_roomsBeyond_32 : decode cX10_roomsBeyond 32 = .ok (.ishl, 1) := by decide +kernel
theorem dX10_roomsBeyond_33 : decode cX10_roomsBeyond 33 = .ok (.iconst 1, 1) := by decide +kernel
theorem dX10_roomsBeyond_34 : decode cX10_roomsBeyond 34 = .ok (.aload_n 1, 1) := by decide +kernel
theorem dX10_roomsBeyond_35 : decode cX10_roomsBeyond 35 = .ok (.getfield 55, 3) := by decide +kernel
theorem dX10_roomsBeyond_38 : decode cX10_roomsBeyond 38 = .ok (.iload 5, 2) := by decide +kernel
theorem dX10_roomsBeyond_40 : decode cX10_roomsBeyond 40 = .ok (.aaload, 1) := by decide +kernel
theorem dX10_roomsBeyond_41 : decode cX10_roomsBeyond 41 = .ok (.getfield 64, 3) := by decide +kernel
theorem dX10_roomsBeyond_44 : decode cX10_roomsBeyond 44 = .ok (.ishl, 1) := by decide +kernel
theorem dX10_roomsBeyond_45 : decode cX10_roomsBeyond 45 = .ok (.ior, 1) := by decide +kernel
theorem dX10_roomsBeyond_46 : decode cX10_roomsBeyond 46 = .ok (.istore 6, 2) := by decide +kernel
theorem dX10_roomsBeyond_48 : decode cX10_roomsBeyond 48 = .ok (.aload_n 0, 1) := by decide +kernel
theorem dX10_roomsBeyond_49 : decode cX10_roomsBeyond 49 = .ok (.getfield 9, 3) := by decide +kernel
theorem dX10_roomsBeyond_52 : decode cX10_roomsBeyond 52 = .ok (.iload 5, 2) := by decide +kernel
theorem dX10_roomsBeyond_54 : decode cX10_roomsBeyond 54 = .ok (.iaload, 1) := by decide +kernel
theorem dX10_roomsBeyond_55 : decode cX10_roomsBeyond 55 = .ok (.iload_n 3, 1) := by decide +kernel
theorem dX10_roomsBeyond_56 : decode cX10_roomsBeyond 56 = .ok (.iand, 1) := by decide +kernel
theorem dX10_roomsBeyond_57 : decode cX10_roomsBeyond 57 = .ok (.ifCond .eq 17, 3) := by decide +kernel
theorem dX10_roomsBeyond_60 : decode cX10_roomsBeyond 60 = .ok (.iload 6, 2) := by decide +kernel
theorem dX10_roomsBeyond_62 : decode cX10_roomsBeyond 62 = .ok (.iload_n 2, 1) := by decide +kernel
theorem dX10_roomsBeyond_63 : decode cX10_roomsBeyond 63 = .ok (.iand, 1) := by decide +kernel
theorem dX10_roomsBeyond_64 : decode cX10_roomsBeyond 64 = .ok (.ifCond .eq 10, 3) := by decide +kernel
theorem dX10_roomsBeyond_67 : decode cX10_roomsBeyond 67 = .ok (.iload 4, 2) := by decide +kernel
theorem dX10_roomsBeyond_69 : decode cX10_roomsBeyond 69 = .ok (.iload 6, 2) := by decide +kernel
theorem dX10_roomsBeyond_71 : decode cX10_roomsBeyond 71 = .ok (.ior, 1) := by decide +kernel
theorem dX10_roomsBeyond_72 : decode cX10_roomsBeyond 72 = .ok (.istore 4, 2) := by decide +kernel
theorem dX10_roomsBeyond_74 : decode cX10_roomsBeyond 74 = .ok (.iinc 5 1, 3) := by decide +kernel
theorem dX10_roomsBeyond_77 : decode cX10_roomsBeyond 77 = .ok (.goto (-65), 3) := by decide +kernel
theorem dX10_roomsBeyond_80 : decode cX10_roomsBeyond 80 = .ok (.iload 4, 2) := by decide +kernel
theorem dX10_roomsBeyond_82 : decode cX10_roomsBeyond 82 = .ok (.ireturn, 1) := by decide +kernel
theorem dX10_fewestDoors_0 : decode cX10_fewestDoors 0 = .ok (.aload_n 0, 1) := by decide +kernel
theorem dX10_fewestDoors_1 : decode cX10_fewestDoors 1 = .ok (.aload_n 1, 1) := by decide +kernel
theorem dX10_fewestDoors_2 : decode cX10_fewestDoors 2 = .ok (.invokevirtual 41, 3) := by decide +kernel
theorem dX10_fewestDoors_5 : decode cX10_fewestDoors 5 = .ok (.iconst 0, 1) := by decide +kernel
theorem dX10_fewestDoors_6 : decode cX10_fewestDoors 6 = .ok (.istore_n 3, 1) := by decide +kernel
theorem dX10_fewestDoors_7 : decode cX10_fewestDoors 7 = .ok (.iload_n 3, 1) := by decide +kernel
theorem dX10_fewestDoors_8 : decode cX10_fewestDoors 8 = .ok (.sipush 2048, 3) := by decide +kernel
theorem dX10_fewestDoors_11 : decode cX10_fewestDoors 11 = .ok (.if_icmp .ge 16, 3) := by decide +kernel
theorem dX10_fewestDoors_14 : decode cX10_fewestDoors 14 = .ok (.aload_n 0, 1) := by decide +kernel
theorem dX10_fewestDoors_15 : decode cX10_fewestDoors 15 = .ok (.getfield 21, 3) := by decide +kernel
theorem dX10_fewestDoors_18 : decode cX10_fewestDoors 18 = .ok (.iload_n 3, 1) := by decide +kernel
theorem dX10_fewestDoors_19 : decode cX10_fewestDoors 19 = .ok (.iconst 0, 1) := by decide +kernel
theorem dX10_fewestDoors_20 : decode cX10_fewestDoors 20 = .ok (.bastore, 1) := by decide +kernel
theorem dX10_fewestDoors_21 : decode cX10_fewestDoors 21 = .ok (.iinc 3 1, 3) := by decide +kernel
theorem dX10_fewestDoors_24 : decode cX10_fewestDoors 24 = .ok (.goto (-17), 3) := by decide +kernel
theorem dX10_fewestDoors_27 : decode cX10_fewestDoors 27 = .ok (.aload_n 0, 1) := by decide +kernel
theorem dX10_fewestDoors_28 : decode cX10_fewestDoors 28 = .ok (.iconst 0, 1) := by decide +kernel
theorem dX10_fewestDoors_29 : decode cX10_fewestDoors 29 = .ok (.putfield 67, 3) := by decide +kernel
theorem dX10_fewestDoors_32 : decode cX10_fewestDoors 32 = .ok (.aload_n 0, 1) := by decide +kernel
theorem dX10_fewestDoors_33 : decode cX10_fewestDoors 33 = .ok (.iconst 1, 1) := by decide +kernel
theorem dX10_fewestDoors_34 : decode cX10_fewestDoors 34 = .ok (.aload_n 1, 1) := by decide +kernel
theorem dX10_fewestDoors_35 : decode cX10_fewestDoors 35 = .ok (.getfield 45, 3) := by decide +kernel
theorem dX10_fewestDoors_38 : decode cX10_fewestDoors 38 = .ok (.ishl, 1) := by decide +kernel
theorem dX10_fewestDoors_39 : decode cX10_fewestDoors 39 = .ok (.aload_n 1, 1) := by decide +kernel
theorem dX10_fewestDoors_40 : decode cX10_fewestDoors 40 = .ok (.getfield 45, 3) := by decide +kernel
theorem dX10_fewestDoors_43 : decode cX10_fewestDoors 43 = .ok (.invokevirtual 70, 3) := by decide +kernel
theorem dX10_fewestDoors_46 : decode cX10_fewestDoors 46 = .ok (.iconst 0, 1) := by decide +kernel
theorem dX10_fewestDoors_47 : decode cX10_fewestDoors 47 = .ok (.istore_n 3, 1) := by decide +kernel
theorem dX10_fewestDoors_48 : decode cX10_fewestDoors 48 = .ok (.iconst 0, 1) := by decide +kernel
theorem dX10_fewestDoors_49 : decode cX10_fewestDoors 49 = .ok (.istore 4, 2) := by decide +kernel
theorem dX10_fewestDoors_51 : decode cX10_fewestDoors 51 = .ok (.iload 4, 2) := by decide +kernel
theorem dX10_fewestDoors_53 : decode cX10_fewestDoors 53 = .ok (.sipush 2048, 3) := by decide +kernel
theorem dX10_fewestDoors_56 : decode cX10_fewestDoors 56 = .ok (.if_icmp .ge 62, 3) := by decide +kernel
theorem dX10_fewestDoors_59 : decode cX10_fewestDoors 59 = .ok (.iload_n 3, 1) := by decide +kernel
theorem dX10_fewestDoors_60 : decode cX10_fewestDoors 60 = .ok (.aload_n 0, 1) := by decide +kernel
theorem dX10_fewestDoors_61 : decode cX10_fewestDoors 61 = .ok (.getfield 67, 3) := by decide +kernel
theorem dX10_fewestDoors_64 : decode cX10_fewestDoors 64 = .ok (.if_icmp .ge 54, 3) := by decide +kernel
theorem dX10_fewestDoors_67 : decode cX10_fewestDoors 67 = .ok (.aload_n 0, 1) := by decide +kernel
theorem dX10_fewestDoors_68 : decode cX10_fewestDoors 68 = .ok (.getfield 67, 3) := by decide +kernel
theorem dX10_fewestDoors_71 : decode cX10_fewestDoors 71 = .ok (.istore 5, 2) := by decide +kernel
theorem dX10_fewestDoors_73 : decode cX10_fewestDoors 73 = .ok (.iload_n 3, 1) := by decide +kernel
theorem dX10_fewestDoors_74 : decode cX10_fewestDoors 74 = .ok (.iload 5, 2) := by decide +kernel
theorem dX10_fewestDoors_76 : decode cX10_fewestDoors 76 = .ok (.if_icmp .ge 36, 3) := by decide +kernel
theorem dX10_fewestDoors_79 : decode cX10_fewestDoors 79 = .ok (.aload_n 0, 1) := by decide +kernel
theorem dX10_fewestDoors_80 : decode cX10_fewestDoors 80 = .ok (.getfield 18, 3) := by decide +kernel
theorem dX10_fewestDoors_83 : decode cX10_fewestDoors 83 = .ok (.iload_n 3, 1) := by decide +kernel
theorem dX10_fewestDoors_84 : decode cX10_fewestDoors 84 = .ok (.iaload, 1) := by decide +kernel
theorem dX10_fewestDoors_85 : decode cX10_fewestDoors 85 = .ok (.bipush 7, 2) := by decide +kernel
theorem dX10_fewestDoors_87 : decode cX10_fewestDoors 87 = .ok (.iand, 1) := by decide +kernel
theorem dX10_fewestDoors_88 : decode cX10_fewestDoors 88 = .ok (.iload_n 2, 1) := by decide +kernel
theorem dX10_fewestDoors_89 : decode cX10_fewestDoors 89 = .ok (.if_icmp .ne 6, 3) := by decide +kernel
theorem dX10_fewestDoors_92 : decode cX10_fewestDoors 92 = .ok (.iload 4, 2) := by decide +kernel
theorem dX10_fewestDoors_94 : decode cX10_fewestDoors 94 = .ok (.ireturn, 1) := by decide +kernel
theorem dX10_fewestDoors_95 : decode cX10_fewestDoors 95 = .ok (.aload_n 0, 1) := by decide +kernel
theorem dX10_fewestDoors_96 : decode cX10_fewestDoors 96 = .ok (.aload_n 1, 1) := by decide +kernel
theorem dX10_fewestDoors_97 : decode cX10_fewestDoors 97 = .ok (.aload_n 0, 1) := by decide +kernel
theorem dX10_fewestDoors_98 : decode cX10_fewestDoors 98 = .ok (.getfield 18, 3) := by decide +kernel
theorem dX10_fewestDoors_101 : decode cX10_fewestDoors 101 = .ok (.iload_n 3, 1) := by decide +kernel
theorem dX10_fewestDoors_102 : decode cX10_fewestDoors 102 = .ok (.iaload, 1) := by decide +kernel
theorem dX10_fewestDoors_103 : decode cX10_fewestDoors 103 = .ok (.invokevirtual 74, 3) := by decide +kernel
theorem dX10_fewestDoors_106 : decode cX10_fewestDoors 106 = .ok (.iinc 3 1, 3) := by decide +kernel
theorem dX10_fewestDoors_109 : decode cX10_fewestDoors 109 = .ok (.goto (-36), 3) := by decide +kernel
theorem dX10_fewestDoors_112 : decode cX10_fewestDoors 112 = .ok (.iinc 4 1, 3) := by decide +kernel
theorem dX10_fewestDoors_115 : decode cX10_fewestDoors 115 = .ok (.goto (-64), 3) := by decide +kernel
theorem dX10_fewestDoors_118 : decode cX10_fewestDoors 118 = .ok (.bipush (-6), 2) := by decide +kernel
theorem dX10_fewestDoors_120 : decode cX10_fewestDoors 120 = .ok (.ireturn, 1) := by decide +kernel
theorem dX10_enqueueBeyond_0 : decode cX10_enqueueBeyond 0 = .ok (.iload_n 2, 1) := by decide +kernel
theorem dX10_enqueueBeyond_1 : decode cX10_enqueueBeyond 1 = .ok (.iconst 3, 1) := by decide +kernel
theorem dX10_enqueueBeyond_2 : decode cX10_enqueueBeyond 2 = .ok (.ishr, 1) := by decide +kernel
theorem dX10_enqueueBeyond_3 : decode cX10_enqueueBeyond 3 = .ok (.istore_n 3, 1) := by decide +kernel
theorem dX10_enqueueBeyond_4 : decode cX10_enqueueBeyond 4 = .ok (.aload_n 0, 1) := by decide +kernel
theorem dX10_enqueueBeyond_5 : decode cX10_enqueueBeyond 5 = .ok (.iload_n 3, 1) := by decide +kernel
theorem dX10_enqueueBeyond_6 : decode cX10_enqueueBeyond 6 = .ok (.invokevirtual 52, 3) := by decide +kernel
theorem dX10_enqueueBeyond_9 : decode cX10_enqueueBeyond 9 = .ok (.istore 4, 2) := by decide +kernel
theorem dX10_enqueueBeyond_11 : decode cX10_enqueueBeyond 11 = .ok (.iconst 0, 1) := by decide +kernel
theorem dX10_enqueueBeyond_12 : decode cX10_enqueueBeyond 12 = .ok (.istore 5, 2) := by decide +kernel
theorem dX10_enqueueBeyond_14 : decode cX10_enqueueBeyond 14 = .ok (.iload 5, 2) := by decide +kernel
theorem dX10_enqueueBeyond_16 : decode cX10_enqueueBeyond 16 = .ok (.aload_n 1, 1) := by decide +kernel
theorem dX10_enqueueBeyond_17 : decode cX10_enqueueBeyond 17 = .ok (.getfield 35, 3) := by decide +kernel
theorem dX10_enqueueBeyond_20 : decode cX10_enqueueBeyond 20 = .ok (.if_icmp .ge 57, 3) := by decide +kernel
theorem dX10_enqueueBeyond_23 : decode cX10_enqueueBeyond 23 = .ok (.aload_n 1, 1) := by decide +kernel
theorem dX10_enqueueBeyond_24 : decode cX10_enqueueBeyond 24 = .ok (.getfield 55, 3) := by decide +kernel
theorem dX10_enqueueBeyond_27 : decode cX10_enqueueBeyond 27 = .ok (.iload 5, 2) := by decide +kernel
theorem dX10_enqueueBeyond_29 : decode cX10_enqueueBeyond 29 = .ok (.aaload, 1) := by decide +kernel
theorem dX10_enqueueBeyond_30 : decode cX10_enqueueBeyond 30 = .ok (.iload_n 2, 1) := by decide +kernel
theorem dX10_enqueueBeyond_31 : decode cX10_enqueueBeyond 31 = .ok (.bipush 7, 2) := by decide +kernel
theorem dX10_enqueueBeyond_33 : decode cX10_enqueueBeyond 33 = .ok (.iand, 1) := by decide +kernel
theorem dX10_enqueueBeyond_34 : decode cX10_enqueueBeyond 34 = .ok (.invokevirtual 78, 3) := by decide +kernel
theorem dX10_enqueueBeyond_37 : decode cX10_enqueueBeyond 37 = .ok (.istore 6, 2) := by decide +kernel
theorem dX10_enqueueBeyond_39 : decode cX10_enqueueBeyond 39 = .ok (.iload 6, 2) := by decide +kernel
theorem dX10_enqueueBeyond_41 : decode cX10_enqueueBeyond 41 = .ok (.bipush (-6), 2) := by decide +kernel
theorem dX10_enqueueBeyond_43 : decode cX10_enqueueBeyond 43 = .ok (.if_icmp .eq 28, 3) := by decide +kernel
theorem dX10_enqueueBeyond_46 : decode cX10_enqueueBeyond 46 = .ok (.aload_n 0, 1) := by decide +kernel
theorem dX10_enqueueBeyond_47 : decode cX10_enqueueBeyond 47 = .ok (.getfield 9, 3) := by decide +kernel
theorem dX10_enqueueBeyond_50 : decode cX10_enqueueBeyond 50 = .ok (.iload 5, 2) := by decide +kernel
theorem dX10_enqueueBeyond_52 : decode cX10_enqueueBeyond 52 = .ok (.iaload, 1) := by decide +kernel
theorem dX10_enqueueBeyond_53 : decode cX10_enqueueBeyond 53 = .ok (.iload 4, 2) := by decide +kernel
theorem dX10_enqueueBeyond_55 : decode cX10_enqueueBeyond 55 = .ok (.iand, 1) := by decide +kernel
theorem dX10_enqueueBeyond_56 : decode cX10_enqueueBeyond 56 = .ok (.ifCond .eq 15, 3) := by decide +kernel
theorem dX10_enqueueBeyond_59 : decode cX10_enqueueBeyond 59 = .ok (.aload_n 0, 1) := by decide +kernel
theorem dX10_enqueueBeyond_60 : decode cX10_enqueueBeyond 60 = .ok (.iload_n 3, 1) := by decide +kernel
theorem dX10_enqueueBeyond_61 : decode cX10_enqueueBeyond 61 = .ok (.iconst 1, 1) := by decide +kernel
theorem dX10_enqueueBeyond_62 : decode cX10_enqueueBeyond 62 = .ok (.iload 6, 2) := by decide +kernel
theorem dX10_enqueueBeyond_64 : decode cX10_enqueueBeyond 64 = .ok (.ishl, 1) := by decide +kernel
theorem dX10_enqueueBeyond_65 : decode cX10_enqueueBeyond 65 = .ok (.ior, 1) := by decide +kernel
theorem dX10_enqueueBeyond_66 : decode cX10_enqueueBeyond 66 = .ok (.iload 6, 2) := by decide +kernel
theorem dX10_enqueueBeyond_68 : decode cX10_enqueueBeyond 68 = .ok (.invokevirtual 70, 3) := by decide +kernel
theorem dX10_enqueueBeyond_71 : decode cX10_enqueueBeyond 71 = .ok (.iinc 5 1, 3) := by decide +kernel
theorem dX10_enqueueBeyond_74 : decode cX10_enqueueBeyond 74 = .ok (.goto (-60), 3) := by decide +kernel
theorem dX10_enqueueBeyond_77 : decode cX10_enqueueBeyond 77 = .ok (.return_, 1) := by decide +kernel
theorem dX10_enqueue_0 : decode cX10_enqueue 0 = .ok (.iload_n 1, 1) := by decide +kernel
theorem dX10_enqueue_1 : decode cX10_enqueue 1 = .ok (.iconst 3, 1) := by decide +kernel
theorem dX10_enqueue_2 : decode cX10_enqueue 2 = .ok (.ishl, 1) := by decide +kernel
theorem dX10_enqueue_3 : decode cX10_enqueue 3 = .ok (.iload_n 2, 1) := by decide +kernel
theorem dX10_enqueue_4 : decode cX10_enqueue 4 = .ok (.ior, 1) := by decide +kernel
theorem dX10_enqueue_5 : decode cX10_enqueue 5 = .ok (.istore_n 3, 1) := by decide +kernel
theorem dX10_enqueue_6 : decode cX10_enqueue 6 = .ok (.aload_n 0, 1) := by decide +kernel
theorem dX10_enqueue_7 : decode cX10_enqueue 7 = .ok (.getfield 21, 3) := by decide +kernel
theorem dX10_enqueue_10 : decode cX10_enqueue 10 = .ok (.iload_n 3, 1) := by decide +kernel
theorem dX10_enqueue_11 : decode cX10_enqueue 11 = .ok (.baload, 1) := by decide +kernel
theorem dX10_enqueue_12 : decode cX10_enqueue 12 = .ok (.ifCond .ne 13, 3) := by decide +kernel
theorem dX10_enqueue_15 : decode cX10_enqueue 15 = .ok (.aload_n 0, 1) := by decide +kernel
theorem dX10_enqueue_16 : decode cX10_enqueue 16 = .ok (.getfield 67, 3) := by decide +kernel
theorem dX10_enqueue_19 : decode cX10_enqueue 19 = .ok (.sipush 2048, 3) := by decide +kernel
theorem dX10_enqueue_22 : decode cX10_enqueue 22 = .ok (.if_icmp .lt 4, 3) := by decide +kernel
theorem dX10_enqueue_25 : decode cX10_enqueue 25 = .ok (.return_, 1) := by decide +kernel
theorem dX10_enqueue_26 : decode cX10_enqueue 26 = .ok (.aload_n 0, 1) := by decide +kernel
theorem dX10_enqueue_27 : decode cX10_enqueue 27 = .ok (.getfield 21, 3) := by decide +kernel
theorem dX10_enqueue_30 : decode cX10_enqueue 30 = .ok (.iload_n 3, 1) := by decide +kernel
theorem dX10_enqueue_31 : decode cX10_enqueue 31 = .ok (.iconst 1, 1) := by decide +kernel
theorem dX10_enqueue_32 : decode cX10_enqueue 32 = .ok (.bastore, 1) := by decide +kernel
theorem dX10_enqueue_33 : decode cX10_enqueue 33 = .ok (.aload_n 0, 1) := by decide +kernel
theorem dX10_enqueue_34 : decode cX10_enqueue 34 = .ok (.getfield 18, 3) := by decide +kernel
theorem dX10_enqueue_37 : decode cX10_enqueue 37 = .ok (.aload_n 0, 1) := by decide +kernel
theorem dX10_enqueue_38 : decode cX10_enqueue 38 = .ok (.getfield 67, 3) := by decide +kernel
theorem dX10_enqueue_41 : decode cX10_enqueue 41 = .ok (.iload_n 3, 1) := by decide +kernel
theorem dX10_enqueue_42 : decode cX10_enqueue 42 = .ok (.iastore, 1) := by decide +kernel
theorem dX10_enqueue_43 : decode cX10_enqueue 43 = .ok (.aload_n 0, 1) := by decide +kernel
theorem dX10_enqueue_44 : decode cX10_enqueue 44 = .ok (.dup, 1) := by decide +kernel
theorem dX10_enqueue_45 : decode cX10_enqueue 45 = .ok (.getfield 67, 3) := by decide +kernel
theorem dX10_enqueue_48 : decode cX10_enqueue 48 = .ok (.iconst 1, 1) := by decide +kernel
theorem dX10_enqueue_49 : decode cX10_enqueue 49 = .ok (.iadd, 1) := by decide +kernel
theorem dX10_enqueue_50 : decode cX10_enqueue 50 = .ok (.putfield 67, 3) := by decide +kernel
theorem dX10_enqueue_53 : decode cX10_enqueue 53 = .ok (.return_, 1) := by decide +kernel
theorem dX11_init_0 : decode cX11_init 0 = .ok (.aload_n 0, 1) := by decide +kernel
theorem dX11_init_1 : decode cX11_init 1 = .ok (.invokespecial 1, 3) := by decide +kernel
theorem dX11_init_4 : decode cX11_init 4 = .ok (.aload_n 0, 1) := by decide +kernel
theorem dX11_init_5 : decode cX11_init 5 = .ok (.new 7, 3) := by decide +kernel
theorem dX11_init_8 : decode cX11_init 8 = .ok (.dup, 1) := by decide +kernel
theorem dX11_init_9 : decode cX11_init 9 = .ok (.invokespecial 9, 3) := by decide +kernel
theorem dX11_init_12 : decode cX11_init 12 = .ok (.putfield 10, 3) := by decide +kernel
theorem dX11_init_15 : decode cX11_init 15 = .ok (.aload_n 0, 1) := by decide +kernel
theorem dX11_init_16 : decode cX11_init 16 = .ok (.new 7, 3) := by decide +kernel
theorem dX11_init_19 : decode cX11_init 19 = .ok (.dup, 1) := by decide +kernel
theorem dX11_init_20 : decode cX11_init 20 = .ok (.invokespecial 9, 3) := by decide +kernel
theorem dX11_init_23 : decode cX11_init 23 = .ok (.putfield 16, 3) := by decide +kernel
theorem dX11_init_26 : decode cX11_init 26 = .ok (.aload_n 0, 1) := by decide +kernel
theorem dX11_init_27 : decode cX11_init 27 = .ok (.new 19, 3) := by decide +kernel
theorem dX11_init_30 : decode cX11_init 30 = .ok (.dup, 1) := by decide +kernel
theorem dX11_init_31 : decode cX11_init 31 = .ok (.invokespecial 21, 3) := by decide +kernel
theorem dX11_init_34 : decode cX11_init 34 = .ok (.putfield 22, 3) := by decide +kernel
theorem dX11_init_37 : decode cX11_init 37 = .ok (.aload_n 0, 1) := by decide +kernel
theorem dX11_init_38 : decode cX11_init 38 = .ok (.iconst 2, 1) := by decide +kernel
theorem dX11_init_39 : decode cX11_init 39 = .ok (.anewarray 7, 3) := by decide +kernel
theorem dX11_init_42 : decode cX11_init 42 = .ok (.putfield 26, 3) := by decide +kernel
theorem dX11_init_45 : decode cX11_init 45 = .ok (.aload_n 0, 1) := by decide +kernel
theorem dX11_init_46 : decode cX11_init 46 = .ok (.iconst 2, 1) := by decide +kernel
theorem dX11_init_47 : decode cX11_init 47 = .ok (.newarray .boolean, 2) := by decide +kernel
theorem dX11_init_49 : decode cX11_init 49 = .ok (.putfield 30, 3) := by decide +kernel
theorem dX11_init_52 : decode cX11_init 52 = .ok (.aload_n 0, 1) := by decide +kernel
theorem dX11_init_53 : decode cX11_init 53 = .ok (.new 34, 3) := by decide +kernel
theorem dX11_init_56 : decode cX11_init 56 = .ok (.dup, 1) := by decide +kernel
theorem dX11_init_57 : decode cX11_init 57 = .ok (.invokespecial 36, 3) := by decide +kernel
theorem dX11_init_60 : decode cX11_init 60 = .ok (.putfield 37, 3) := by decide +kernel
theorem dX11_init_63 : decode cX11_init 63 = .ok (.aload_n 0, 1) := by decide +kernel
theorem dX11_init_64 : decode cX11_init 64 = .ok (.new 41, 3) := by decide +kernel
theorem dX11_init_67 : decode cX11_init 67 = .ok (.dup, 1) := by decide +kernel
theorem dX11_init_68 : decode cX11_init 68 = .ok (.invokespecial 43, 3) := by decide +kernel
theorem dX11_init_71 : decode cX11_init 71 = .ok (.putfield 44, 3) := by decide +kernel
theorem dX11_init_74 : decode cX11_init 74 = .ok (.aload_n 0, 1) := by decide +kernel
theorem dX11_init_75 : decode cX11_init 75 = .ok (.new 48, 3) := by decide +kernel
theorem dX11_init_78 : decode cX11_init 78 = .ok (.dup, 1) := by decide +kernel
theorem dX11_init_79 : decode cX11_init 79 = .ok (.invokespecial 50, 3) := by decide +kernel
theorem dX11_init_82 : decode cX11_init 82 = .ok (.putfield 51, 3) := by decide +kernel
theorem dX11_init_85 : decode cX11_init 85 = .ok (.aload_n 0, 1) := by decide +kernel
theorem dX11_init_86 : decode cX11_init 86 = .ok (.new 55, 3) := by decide +kernel
theorem dX11_init_89 : decode cX11_init 89 = .ok (.dup, 1) := by decide +kernel
theorem dX11_init_90 : decode cX11_init 90 = .ok (.invokespecial 57, 3) := by decide +kernel
theorem dX11_init_93 : decode cX11_init 93 = .ok (.putfield 58, 3) := by decide +kernel
theorem dX11_init_96 : decode cX11_init 96 = .ok (.iconst 0, 1) := by decide +kernel
theorem dX11_init_97 : decode cX11_init 97 = .ok (.istore_n 1, 1) := by decide +kernel
theorem dX11_init_98 : decode cX11_init 98 = .ok (.iload_n 1, 1) := by decide +kernel
theorem dX11_init_99 : decode cX11_init 99 = .ok (.iconst 2, 1) := by decide +kernel
theorem dX11_init_100 : decode cX11_init 100 = .ok (.if_icmp .ge 22, 3) := by decide +kernel
theorem dX11_init_103 : decode cX11_init 103 = .ok (.aload_n 0, 1) := by decide +kernel
theorem dX11_init_104 : decode cX11_init 104 = .ok (.getfield 26, 3) := by decide +kernel
theorem dX11_init_107 : decode cX11_init 107 = .ok (.iload_n 1, 1) := by decide +kernel
theorem dX11_init_108 : decode cX11_init 108 = .ok (.new 7, 3) := by decide +kernel
theorem dX11_init_111 : decode cX11_init 111 = .ok (.dup, 1) := by decide +kernel
theorem dX11_init_112 : decode cX11_init 112 = .ok (.invokespecial 9, 3) := by decide +kernel
theorem dX11_init_115 : decode cX11_init 115 = .ok (.aastore, 1) := by decide +kernel
theorem dX11_init_116 : decode cX11_init 116 = .ok (.iinc 1 1, 3) := by decide +kernel
theorem dX11_init_119 : decode cX11_init 119 = .ok (.goto (-21), 3) := by decide +kernel
theorem dX11_init_122 : decode cX11_init 122 = .ok (.return_, 1) := by decide +kernel
theorem dX11_set_0 : decode cX11_set 0 = .ok (.aload_n 0, 1) := by decide +kernel
theorem dX11_set_1 : decode cX11_set 1 = .ok (.getfield 16, 3) := by decide +kernel
theorem dX11_set_4 : decode cX11_set 4 = .ok (.aload_n 0, 1) := by decide +kernel
theorem dX11_set_5 : decode cX11_set 5 = .ok (.getfield 10, 3) := by decide +kernel
theorem dX11_set_8 : decode cX11_set 8 = .ok (.invokevirtual 62, 3) := by decide +kernel
theorem dX11_set_11 : decode cX11_set 11 = .ok (.aload_n 0, 1) := by decide +kernel
theorem dX11_set_12 : decode cX11_set 12 = .ok (.aload_n 0, 1) := by decide +kernel
theorem dX11_set_13 : decode cX11_set 13 = .ok (.getfield 10, 3) := by decide +kernel
theorem dX11_set_16 : decode cX11_set 16 = .ok (.iload_n 1, 1) := by decide +kernel
theorem dX11_set_17 : decode cX11_set 17 = .ok (.iload_n 2, 1) := by decide +kernel
theorem dX11_set_18 : decode cX11_set 18 = .ok (.invokevirtual 66, 3) := by decide +kernel
theorem dX11_set_21 : decode cX11_set 21 = .ok (.invokevirtual 70, 3) := by decide +kernel
theorem dX11_set_24 : decode cX11_set 24 = .ok (.ireturn, 1) := by decide +kernel
theorem dX11_brass_0 : decode cX11_brass 0 = .ok (.aload_n 0, 1) := by decide +kernel
theorem dX11_brass_1 : decode cX11_brass 1 = .ok (.getfield 16, 3) := by decide +kernel
theorem dX11_brass_4 : decode cX11_brass 4 = .ok (.aload_n 0, 1) := by decide +kernel
theorem dX11_brass_5 : decode cX11_brass 5 = .ok (.getfield 10, 3) := by decide +kernel
theorem dX11_brass_8 : decode cX11_brass 8 = .ok (.invokevirtual 62, 3) := by decide +kernel
theorem dX11_brass_11 : decode cX11_brass 11 = .ok (.aload_n 0, 1) := by decide +kernel
theorem dX11_brass_12 : decode cX11_brass 12 = .ok (.aload_n 0, 1) := by decide +kernel
theorem dX11_brass_13 : decode cX11_brass 13 = .ok (.getfield 10, 3) := by decide +kernel
theorem dX11_brass_16 : decode cX11_brass 16 = .ok (.iload_n 1, 1) := by decide +kernel
theorem dX11_brass_17 : decode cX11_brass 17 = .ok (.invokevirtual 74, 3) := by decide +kernel
theorem dX11_brass_20 : decode cX11_brass 20 = .ok (.invokevirtual 70, 3) := by decide +kernel
theorem dX11_brass_23 : decode cX11_brass 23 = .ok (.ireturn, 1) := by decide +kernel
theorem dX11_door_0 : decode cX11_door 0 = .ok (.aload_n 0, 1) := by decide +kernel
theorem dX11_door_1 : decode cX11_door 1 = .ok (.getfield 16, 3) := by decide +kernel
theorem dX11_door_4 : decode cX11_door 4 = .ok (.aload_n 0, 1) := by decide +kernel
theorem dX11_door_5 : decode cX11_door 5 = .ok (.getfield 10, 3) := by decide +kernel
theorem dX11_door_8 : decode cX11_door 8 = .ok (.invokevirtual 62, 3) := by decide +kernel
theorem dX11_door_11 : decode cX11_door 11 = .ok (.aload_n 0, 1) := by decide +kernel
theorem dX11_door_12 : decode cX11_door 12 = .ok (.aload_n 0, 1) := by decide +kernel
theorem dX11_door_13 : decode cX11_door 13 = .ok (.getfield 10, 3) := by decide +kernel
theorem dX11_door_16 : decode cX11_door 16 = .ok (.iload_n 1, 1) := by decide +kernel
theorem dX11_door_17 : decode cX11_door 17 = .ok (.iload_n 2, 1) := by decide +kernel
theorem dX11_door_18 : decode cX11_door 18 = .ok (.iload_n 3, 1) := by decide +kernel
theorem dX11_door_19 : decode cX11_door 19 = .ok (.iload 4, 2) := by decide +kernel
theorem dX11_door_21 : decode cX11_door 21 = .ok (.invokevirtual 77, 3) := by decide +kernel
theorem dX11_door_24 : decode cX11_door 24 = .ok (.invokevirtual 70, 3) := by decide +kernel
theorem dX11_door_27 : decode cX11_door 27 = .ok (.ireturn, 1) := by decide +kernel
theorem dX11_cut_0 : decode cX11_cut 0 = .ok (.aload_n 0, 1) := by decide +kernel
theorem dX11_cut_1 : decode cX11_cut 1 = .ok (.getfield 16, 3) := by decide +kernel
theorem dX11_cut_4 : decode cX11_cut 4 = .ok (.aload_n 0, 1) := by decide +kernel
theorem dX11_cut_5 : decode cX11_cut 5 = .ok (.getfield 10, 3) := by decide +kernel
theorem dX11_cut_8 : decode cX11_cut 8 = .ok (.invokevirtual 62, 3) := by decide +kernel
theorem dX11_cut_11 : decode cX11_cut 11 = .ok (.aload_n 0, 1) := by decide +kernel
theorem dX11_cut_12 : decode cX11_cut 12 = .ok (.aload_n 0, 1) := by decide +kernel
theorem dX11_cut_13 : decode cX11_cut 13 = .ok (.getfield 10, 3) := by decide +kernel
theorem dX11_cut_16 : decode cX11_cut 16 = .ok (.iload_n 1, 1) := by decide +kernel
theorem dX11_cut_17 : decode cX11_cut 17 = .ok (.iload_n 2, 1) := by decide +kernel
theorem dX11_cut_18 : decode cX11_cut 18 = .ok (.iload_n 3, 1) := by decide +kernel
theorem dX11_cut_19 : decode cX11_cut 19 = .ok (.invokevirtual 81, 3) := by decide +kernel
theorem dX11_cut_22 : decode cX11_cut 22 = .ok (.invokevirtual 70, 3) := by decide +kernel
theorem dX11_cut_25 : decode cX11_cut 25 = .ok (.ireturn, 1) := by decide +kernel
theorem dX11_key_0 : decode cX11_key 0 = .ok (.aload_n 0, 1) := by decide +kernel
theorem dX11_key_1 : decode cX11_key 1 = .ok (.getfield 16, 3) := by decide +kernel
theorem dX11_key_4 : decode cX11_key 4 = .ok (.aload_n 0, 1) := by decide +kernel
theorem dX11_key_5 : decode cX11_key 5 = .ok (.getfield 10, 3) := by decide +kernel
theorem dX11_key_8 : decode cX11_key 8 = .ok (.invokevirtual 62, 3) := by decide +kernel
theorem dX11_key_11 : decode cX11_key 11 = .ok (.aload_n 0, 1) := by decide +kernel
theorem dX11_key_12 : decode cX11_key 12 = .ok (.aload_n 0, 1) := by decide +kernel
theorem dX11_key_13 : decode cX11_key 13 = .ok (.getfield 10, 3) := by decide +kernel
theorem dX11_key_16 : decode cX11_key 16 = .ok (.iload_n 1, 1) := by decide +kernel
theorem dX11_key_17 : decode cX11_key 17 = .ok (.iload_n 2, 1) := by decide +kernel
theorem dX11_key_18 : decode cX11_key 18 = .ok (.invokevirtual 85, 3) := by decide +kernel
theorem dX11_key_21 : decode cX11_key 21 = .ok (.invokevirtual 70, 3) := by decide +kernel
theorem dX11_key_24 : decode cX11_key 24 = .ok (.ireturn, 1) := by decide +kernel
theorem dX11_melt_0 : decode cX11_melt 0 = .ok (.aload_n 0, 1) := by decide +kernel
theorem dX11_melt_1 : decode cX11_melt 1 = .ok (.getfield 16, 3) := by decide +kernel
theorem dX11_melt_4 : decode cX11_melt 4 = .ok (.aload_n 0, 1) := by decide +kernel
theorem dX11_melt_5 : decode cX11_melt 5 = .ok (.getfield 10, 3) := by decide +kernel
theorem dX11_melt_8 : decode cX11_melt 8 = .ok (.invokevirtual 62, 3) := by decide +kernel
theorem dX11_melt_11 : decode cX11_melt 11 = .ok (.aload_n 0, 1) := by decide +kernel
theorem dX11_melt_12 : decode cX11_melt 12 = .ok (.aload_n 0, 1) := by decide +kernel
theorem dX11_melt_13 : decode cX11_melt 13 = .ok (.getfield 10, 3) := by decide +kernel
theorem dX11_melt_16 : decode cX11_melt 16 = .ok (.iload_n 1, 1) := by decide +kernel
theorem dX11_melt_17 : decode cX11_melt 17 = .ok (.invokevirtual 88, 3) := by decide +kernel
theorem dX11_melt_20 : decode cX11_melt 20 = .ok (.invokevirtual 70, 3) := by decide +kernel
theorem dX11_melt_23 : decode cX11_melt 23 = .ok (.ireturn, 1) := by decide +kernel
theorem dX11_take_0 : decode cX11_take 0 = .ok (.aload_n 0, 1) := by decide +kernel
theorem dX11_take_1 : decode cX11_take 1 = .ok (.getfield 16, 3) := by decide +kernel
theorem dX11_take_4 : decode cX11_take 4 = .ok (.aload_n 0, 1) := by decide +kernel
theorem dX11_take_5 : decode cX11_take 5 = .ok (.getfield 10, 3) := by decide +kernel
theorem dX11_take_8 : decode cX11_take 8 = .ok (.invokevirtual 62, 3) := by decide +kernel
theorem dX11_take_11 : decode cX11_take 11 = .ok (.aload_n 0, 1) := by decide +kernel
theorem dX11_take_12 : decode cX11_take 12 = .ok (.aload_n 0, 1) := by decide +kernel
theorem dX11_take_13 : decode cX11_take 13 = .ok (.getfield 10, 3) := by decide +kernel
theorem dX11_take_16 : decode cX11_take 16 = .ok (.iload_n 1, 1) := by decide +kernel
theorem dX11_take_17 : decode cX11_take 17 = .ok (.invokevirtual 91, 3) := by decide +kernel
theorem dX11_take_20 : decode cX11_take 20 = .ok (.invokevirtual 70, 3) := by decide +kernel
theorem dX11_take_23 : decode cX11_take 23 = .ok (.ireturn, 1) := by decide +kernel
theorem dX11_putDown_0 : decode cX11_putDown 0 = .ok (.aload_n 0, 1) := by decide +kernel
theorem dX11_putDown_1 : decode cX11_putDown 1 = .ok (.getfield 16, 3) := by decide +kernel
theorem dX11_putDown_4 : decode cX11_putDown 4 = .ok (.aload_n 0, 1) := by decide +kernel
theorem dX11_putDown_5 : decode cX11_putDown 5 = .ok (.getfield 10, 3) := by decide +kernel
theorem dX11_putDown_8 : decode cX11_putDown 8 = .ok (.invokevirtual 62, 3) := by decide +kernel
theorem dX11_putDown_11 : decode cX11_putDown 11 = .ok (.aload_n 0, 1) := by decide +kernel
theorem dX11_putDown_12 : decode cX11_putDown 12 = .ok (.aload_n 0, 1) := by decide +kernel
theorem dX11_putDown_13 : decode cX11_putDown 13 = .ok (.getfield 10, 3) := by decide +kernel
theorem dX11_putDown_16 : decode cX11_putDown 16 = .ok (.iload_n 1, 1) := by decide +kernel
theorem dX11_putDown_17 : decode cX11_putDown 17 = .ok (.invokevirtual 94, 3) := by decide +kernel
theorem dX11_putDown_20 : decode cX11_putDown 20 = .ok (.invokevirtual 70, 3) := by decide +kernel
theorem dX11_putDown_23 : decode cX11_putDown 23 = .ok (.ireturn, 1) := by decide +kernel
theorem dX11_go_0 : decode cX11_go 0 = .ok (.aload_n 0, 1) := by decide +kernel
theorem dX11_go_1 : decode cX11_go 1 = .ok (.getfield 16, 3) := by decide +kernel
theorem dX11_go_4 : decode cX11_go 4 = .ok (.aload_n 0, 1) := by decide +kernel
theorem dX11_go_5 : decode cX11_go 5 = .ok (.getfield 10, 3) := by decide +kernel
theorem dX11_go_8 : decode cX11_go 8 = .ok (.invokevirtual 62, 3) := by decide +kernel
theorem dX11_go_11 : decode cX11_go 11 = .ok (.aload_n 0, 1) := by decide +kernel
theorem dX11_go_12 : decode cX11_go 12 = .ok (.aload_n 0, 1) := by decide +kernel
theorem dX11_go_13 : decode cX11_go 13 = .ok (.getfield 10, 3) := by decide +kernel
theorem dX11_go_16 : decode cX11_go 16 = .ok (.iload_n 1, 1) := by decide +kernel
theorem dX11_go_17 : decode cX11_go 17 = .ok (.invokevirtual 97, 3) := by decide +kernel
theorem dX11_go_20 : decode cX11_go 20 = .ok (.invokevirtual 70, 3) := by decide +kernel
theorem dX11_go_23 : decode cX11_go 23 = .ok (.ireturn, 1) := by decide +kernel
theorem dX11_plan_0 : decode cX11_plan 0 = .ok (.aload_n 0, 1) := by decide +kernel
theorem dX11_plan_1 : decode cX11_plan 1 = .ok (.getfield 16, 3) := by decide +kernel
theorem dX11_plan_4 : decode cX11_plan 4 = .ok (.aload_n 0, 1) := by decide +kernel
theorem dX11_plan_5 : decode cX11_plan 5 = .ok (.getfield 10, 3) := by decide +kernel
theorem dX11_plan_8 : decode cX11_plan 8 = .ok (.invokevirtual 62, 3) := by decide +kernel
theorem dX11_plan_11 : decode cX11_plan 11 = .ok (.aload_n 0, 1) := by decide +kernel
theorem dX11_plan_12 : decode cX11_plan 12 = .ok (.aload_n 0, 1) := by decide +kernel
theorem dX11_plan_13 : decode cX11_plan 13 = .ok (.getfield 10, 3) := by decide +kernel
theorem dX11_plan_16 : decode cX11_plan 16 = .ok (.iload_n 1, 1) := by decide +kernel
theorem dX11_plan_17 : decode cX11_plan 17 = .ok (.iload_n 2, 1) := by decide +kernel
theorem dX11_plan_18 : decode cX11_plan 18 = .ok (.iload_n 3, 1) := by decide +kernel
theorem dX11_plan_19 : decode cX11_plan 19 = .ok (.invokevirtual 100, 3) := by decide +kernel
theorem dX11_plan_22 : decode cX11_plan 22 = .ok (.invokevirtual 70, 3) := by decide +kernel
theorem dX11_plan_25 : decode cX11_plan 25 = .ok (.ireturn, 1) := by decide +kernel
theorem dX11_dropPlan_0 : decode cX11_dropPlan 0 = .ok (.aload_n 0, 1) := by decide +kernel
theorem dX11_dropPlan_1 : decode cX11_dropPlan 1 = .ok (.getfield 16, 3) := by decide +kernel
theorem dX11_dropPlan_4 : decode cX11_dropPlan 4 = .ok (.aload_n 0, 1) := by decide +kernel
theorem dX11_dropPlan_5 : decode cX11_dropPlan 5 = .ok (.getfield 10, 3) := by decide +kernel
theorem dX11_dropPlan_8 : decode cX11_dropPlan 8 = .ok (.invokevirtual 62, 3) := by decide +kernel
theorem dX11_dropPlan_11 : decode cX11_dropPlan 11 = .ok (.aload_n 0, 1) := by decide +kernel
theorem dX11_dropPlan_12 : decode cX11_dropPlan 12 = .ok (.aload_n 0, 1) := by decide +kernel
theorem dX11_dropPlan_13 : decode cX11_dropPlan 13 = .ok (.getfield 10, 3) := by decide +kernel
theorem dX11_dropPlan_16 : decode cX11_dropPlan 16 = .ok (.invokevirtual 103, 3) := by decide +kernel
theorem dX11_dropPlan_19 : decode cX11_dropPlan 19 = .ok (.invokevirtual 70, 3) := by decide +kernel
theorem dX11_dropPlan_22 : decode cX11_dropPlan 22 = .ok (.ireturn, 1) := by decide +kernel
theorem dX11_carryPlan_0 : decode cX11_carryPlan 0 = .ok (.aload_n 0, 1) := by decide +kernel
theorem dX11_carryPlan_1 : decode cX11_carryPlan 1 = .ok (.getfield 58, 3) := by decide +kernel
theorem dX11_carryPlan_4 : decode cX11_carryPlan 4 = .ok (.aload_n 0, 1) := by decide +kernel
theorem dX11_carryPlan_5 : decode cX11_carryPlan 5 = .ok (.getfield 10, 3) := by decide +kernel
theorem dX11_carryPlan_8 : decode cX11_carryPlan 8 = .ok (.invokevirtual 107, 3) := by decide +kernel
theorem dX11_carryPlan_11 : decode cX11_carryPlan 11 = .ok (.aload_n 0, 1) := by decide +kernel
theorem dX11_carryPlan_12 : decode cX11_carryPlan 12 = .ok (.getfield 10, 3) := by decide +kernel
theorem dX11_carryPlan_15 : decode cX11_carryPlan 15 = .ok (.getfield 110, 3) := by decide +kernel
theorem dX11_carryPlan_18 : decode cX11_carryPlan 18 = .ok (.getfield 114, 3) := by decide +kernel
theorem dX11_carryPlan_21 : decode cX11_carryPlan 21 = .ok (.ifCond .eq 13, 3) := by decide +kernel
theorem dX11_carryPlan_24 : decode cX11_carryPlan 24 = .ok (.aload_n 0, 1) := by decide +kernel
theorem dX11_carryPlan_25 : decode cX11_carryPlan 25 = .ok (.getfield 58, 3) := by decide +kernel
theorem dX11_carryPlan_28 : decode cX11_carryPlan 28 = .ok (.invokevirtual 120, 3) := by decide +kernel
theorem dX11_carryPlan_31 : decode cX11_carryPlan 31 = .ok (.ifCond .ne 6, 3) := by decide +kernel
theorem dX11_carryPlan_34 : decode cX11_carryPlan 34 = .ok (.bipush (-5), 2) := by decide +kernel
theorem dX11_carryPlan_36 : decode cX11_carryPlan 36 = .ok (.ireturn, 1) := by decide +kernel
theorem dX11_carryPlan_37 : decode cX11_carryPlan 37 = .ok (.aload_n 0, 1) := by decide +kernel
theorem dX11_carryPlan_38 : decode cX11_carryPlan 38 = .ok (.getfield 16, 3) := by decide +kernel
theorem dX11_carryPlan_41 : decode cX11_carryPlan 41 = .ok (.aload_n 0, 1) := by decide +kernel
theorem dX11_carryPlan_42 : decode cX11_carryPlan 42 = .ok (.getfield 10, 3) := by decide +kernel
theorem dX11_carryPlan_45 : decode cX11_carryPlan 45 = .ok (.invokevirtual 62, 3) := by decide +kernel
theorem dX11_carryPlan_48 : decode cX11_carryPlan 48 = .ok (.aload_n 0, 1) := by decide +kernel
theorem dX11_carryPlan_49 : decode cX11_carryPlan 49 = .ok (.getfield 10, 3) := by decide +kernel
theorem dX11_carryPlan_52 : decode cX11_carryPlan 52 = .ok (.getfield 110, 3) := by decide +kernel
theorem dX11_carryPlan_55 : decode cX11_carryPlan 55 = .ok (.getfield 114, 3) := by decide +kernel
theorem dX11_carryPlan_58 : decode cX11_carryPlan 58 = .ok (.istore_n 1, 1) := by decide +kernel
theorem dX11_carryPlan_59 : decode cX11_carryPlan 59 = .ok (.iconst 0, 1) := by decide +kernel
theorem dX11_carryPlan_60 : decode cX11_carryPlan 60 = .ok (.istore_n 2, 1) := by decide +kernel
theorem dX11_carryPlan_61 : decode cX11_carryPlan 61 = .ok (.iload_n 2, 1) := by decide +kernel
theorem dX11_carryPlan_62 : decode cX11_carryPlan 62 = .ok (.iload_n 1, 1) := by decide +kernel
theorem dX11_carryPlan_63 : decode cX11_carryPlan 63 = .ok (.if_icmp .ge 25, 3) := by decide +kernel
theorem dX11_carryPlan_66 : decode cX11_carryPlan 66 = .ok (.aload_n 0, 1) := by decide +kernel
theorem dX11_carryPlan_67 : decode cX11_carryPlan 67 = .ok (.getfield 10, 3) := by decide +kernel
theorem dX11_carryPlan_70 : decode cX11_carryPlan 70 = .ok (.aload_n 0, 1) := by decide +kernel
theorem dX11_carryPlan_71 : decode cX11_carryPlan 71 = .ok (.getfield 58, 3) := by decide +kernel
theorem dX11_carryPlan_74 : decode cX11_carryPlan 74 = .ok (.iload_n 2, 1) := by decide +kernel
theorem dX11_carryPlan_75 : decode cX11_carryPlan 75 = .ok (.invokevirtual 123, 3) := by decide +kernel
theorem dX11_carryPlan_78 : decode cX11_carryPlan 78 = .ok (.invokevirtual 126, 3) := by decide +kernel
theorem dX11_carryPlan_81 : decode cX11_carryPlan 81 = .ok (.pop, 1) := by decide +kernel
theorem dX11_carryPlan_82 : decode cX11_carryPlan 82 = .ok (.iinc 2 1, 3) := by decide +kernel
theorem dX11_carryPlan_85 : decode cX11_carryPlan 85 = .ok (.goto (-24), 3) := by decide +kernel
theorem dX11_carryPlan_88 : decode cX11_carryPlan 88 = .ok (.aload_n 0, 1) := by decide +kernel
theorem dX11_carryPlan_89 : decode cX11_carryPlan 89 = .ok (.getfield 10, 3) := by decide +kernel
theorem dX11_carryPlan_92 : decode cX11_carryPlan 92 = .ok (.invokevirtual 103, 3) := by decide +kernel
theorem dX11_carryPlan_95 : decode cX11_carryPlan 95 = .ok (.pop, 1) := by decide +kernel
theorem dX11_carryPlan_96 : decode cX11_carryPlan 96 = .ok (.aload_n 0, 1) := by decide +kernel
theorem dX11_carryPlan_97 : decode cX11_carryPlan 97 = .ok (.aload_n 0, 1) := by decide +kernel
theorem dX11_carryPlan_98 : decode cX11_carryPlan 98 = .ok (.getfield 10, 3) := by decide +kernel
theorem dX11_carryPlan_101 : decode cX11_carryPlan 101 = .ok (.getfield 129, 3) := by decide +kernel
theorem dX11_carryPlan_104 : decode cX11_carryPlan 104 = .ok (.invokevirtual 70, 3) := by decide +kernel
theorem dX11_carryPlan_107 : decode cX11_carryPlan 107 = .ok (.ireturn, 1) := by decide +kernel
theorem dX11_ofDoor_0 : decode cX11_ofDoor 0 = .ok (.aload_n 0, 1) := by decide +kernel
theorem dX11_ofDoor_1 : decode cX11_ofDoor 1 = .ok (.getfield 10, 3) := by decide +kernel
theorem dX11_ofDoor_4 : decode cX11_ofDoor 4 = .ok (.iload_n 1, 1) := by decide +kernel
theorem dX11_ofDoor_5 : decode cX11_ofDoor 5 = .ok (.iload_n 2, 1) := by decide +kernel
theorem dX11_ofDoor_6 : decode cX11_ofDoor 6 = .ok (.invokevirtual 132, 3) := by decide +kernel
theorem dX11_ofDoor_9 : decode cX11_ofDoor 9 = .ok (.ireturn, 1) := by decide +kernel
theorem dX11_ofKey_0 : decode cX11_ofKey 0 = .ok (.aload_n 0, 1) := by decide +kernel
theorem dX11_ofKey_1 : decode cX11_ofKey 1 = .ok (.getfield 10, 3) := by decide +kernel
theorem dX11_ofKey_4 : decode cX11_ofKey 4 = .ok (.iload_n 1, 1) := by decide +kernel
theorem dX11_ofKey_5 : decode cX11_ofKey 5 = .ok (.iload_n 2, 1) := by decide +kernel
theorem dX11_ofKey_6 : decode cX11_ofKey 6 = .ok (.invokevirtual 135, 3) := by decide +kernel
theorem dX11_ofKey_9 : decode cX11_ofKey 9 = .ok (.ireturn, 1) := by decide +kernel
theorem dX11_count_0 : decode cX11_count 0 = .ok (.iload_n 1, 1) := by decide +kernel
theorem dX11_count_1 : decode cX11_count 1 = .ok (.bipush 11, 2) := by decide +kernel
theorem dX11_count_3 : decode cX11_count 3 = .ok (.if_icmp .ne 11, 3) := by decide +kernel
theorem dX11_count_6 : decode cX11_count 6 = .ok (.aload_n 0, 1) := by decide +kernel
theorem dX11_count_7 : decode cX11_count 7 = .ok (.getfield 37, 3) := by decide +kernel
theorem dX11_count_10 : decode cX11_count 10 = .ok (.getfield 138, 3) := by decide +kernel
theorem dX11_count_13 : decode cX11_count 13 = .ok (.ireturn, 1) := by decide +kernel
theorem dX11_count_14 : decode cX11_count 14 = .ok (.iload_n 1, 1) := by decide +kernel
theorem dX11_count_15 : decode cX11_count 15 = .ok (.bipush 12, 2) := by decide +kernel
theorem dX11_count_17 : decode cX11_count 17 = .ok (.if_icmp .ne 11, 3) := by decide +kernel
theorem dX11_count_20 : decode cX11_count 20 = .ok (.aload_n 0, 1) := by decide +kernel
theorem dX11_count_21 : decode cX11_count 21 = .ok (.getfield 22, 3) := by decide +kernel
theorem dX11_count_24 : decode cX11_count 24 = .ok (.getfield 141, 3) := by decide +kernel
theorem dX11_count_27 : decode cX11_count 27 = .ok (.ireturn, 1) := by decide +kernel
theorem dX11_count_28 : decode cX11_count 28 = .ok (.aload_n 0, 1) := by decide +kernel
theorem dX11_count_29 : decode cX11_count 29 = .ok (.getfield 10, 3) := by decide +kernel
theorem dX11_count_32 : decode cX11_count 32 = .ok (.iload_n 1, 1) := by decide +kernel
theorem dX11_count_33 : decode cX11_count 33 = .ok (.invokevirtual 142, 3) := by decide +kernel
theorem dX11_count_36 : decode cX11_count 36 = .ok (.ireturn, 1) := by decide +kernel
theorem dX11_opens_0 : decode cX11_opens 0 = .ok (.aload_n 0, 1) := by decide +kernel
theorem dX11_opens_1 : decode cX11_opens 1 = .ok (.getfield 10, 3) := by decide +kernel
theorem dX11_opens_4 : decode cX11_opens 4 = .ok (.iload_n 2, 1) := by decide +kernel
theorem dX11_opens_5 : decode cX11_opens 5 = .ok (.invokevirtual 145, 3) := by decide +kernel
theorem dX11_opens_8 : decode cX11_opens 8 = .ok (.ifCond .ne 5, 3) := by decide +kernel
theorem dX11_opens_11 : decode cX11_opens 11 = .ok (.iconst (-1), 1) := by decide +kernel
theorem dX11_opens_12 : decode cX11_opens 12 = .ok (.ireturn, 1) := by decide +kernel
theorem dX11_opens_13 : decode cX11_opens 13 = .ok (.iload_n 1, 1) := by decide +kernel
theorem dX11_opens_14 : decode cX11_opens 14 = .ok (.invokestatic 149, 3) := by decide +kernel
theorem dX11_opens_17 : decode cX11_opens 17 = .ok (.ifCond .ne 6, 3) := by decide +kernel
theorem dX11_opens_20 : decode cX11_opens 20 = .ok (.bipush (-2), 2) := by decide +kernel
theorem dX11_opens_22 : decode cX11_opens 22 = .ok (.ireturn, 1) := by decide +kernel
theorem dX11_opens_23 : decode cX11_opens 23 = .ok (.aload_n 0, 1) := by decide +kernel
theorem dX11_opens_24 : decode cX11_opens 24 = .ok (.getfield 10, 3) := by decide +kernel
theorem dX11_opens_27 : decode cX11_opens 27 = .ok (.getfield 154, 3) := by decide +kernel
theorem dX11_opens_30 : decode cX11_opens 30 = .ok (.iload_n 2, 1) := by decide +kernel
theorem dX11_opens_31 : decode cX11_opens 31 = .ok (.aaload, 1) := by decide +kernel
theorem dX11_opens_32 : decode cX11_opens 32 = .ok (.iload_n 1, 1) := by decide +kernel
theorem dX11_opens_33 : decode cX11_opens 33 = .ok (.invokevirtual 158, 3) := by decide +kernel
theorem dX11_opens_36 : decode cX11_opens 36 = .ok (.ifCond .eq 7, 3) := by decide +kernel
theorem dX11_opens_39 : decode cX11_opens 39 = .ok (.iconst 1, 1) := by decide +kernel
theorem dX11_opens_40 : decode cX11_opens 40 = .ok (.goto 4, 3) := by decide +kernel
theorem dX11_opens_43 : decode cX11_opens 43 = .ok (.iconst 0, 1) := by decide +kernel
theorem dX11_opens_44 : decode cX11_opens 44 = .ok (.ireturn, 1) := by decide +kernel
theorem dX11_reach_0 : decode cX11_reach 0 = .ok (.aload_n 0, 1) := by decide +kernel
theorem dX11_reach_1 : decode cX11_reach 1 = .ok (.getfield 51, 3) := by decide +kernel
theorem dX11_reach_4 : decode cX11_reach 4 = .ok (.aload_n 0, 1) := by decide +kernel
theorem dX11_reach_5 : decode cX11_reach 5 = .ok (.getfield 10, 3) := by decide +kernel
theorem dX11_reach_8 : decode cX11_reach 8 = .ok (.invokevirtual 173, 3) := by decide +kernel
theorem dX11_reach_11 : decode cX11_reach 11 = .ok (.ireturn, 1) := by decide +kernel
theorem dX11_doorsTo_0 : decode cX11_doorsTo 0 = .ok (.iload_n 1, 1) := by decide +kernel
theorem dX11_doorsTo_1 : decode cX11_doorsTo 1 = .ok (.invokestatic 177, 3) := by decide +kernel
theorem dX11_doorsTo_4 : decode cX11_doorsTo 4 = .ok (.ifCond .ne 6, 3) := by decide +kernel
theorem dX11_doorsTo_7 : decode cX11_doorsTo 7 = .ok (.bipush (-2), 2) := by decide +kernel
theorem dX11_doorsTo_9 : decode cX11_doorsTo 9 = .ok (.ireturn, 1) := by decide +kernel
theorem dX11_doorsTo_10 : decode cX11_doorsTo 10 = .ok (.aload_n 0, 1) := by decide +kernel
theorem dX11_doorsTo_11 : decode cX11_doorsTo 11 = .ok (.getfield 51, 3) := by decide +kernel
theorem dX11_doorsTo_14 : decode cX11_doorsTo 14 = .ok (.aload_n 0, 1) := by decide +kernel
theorem dX11_doorsTo_15 : decode cX11_doorsTo 15 = .ok (.getfield 10, 3) := by decide +kernel
theorem dX11_doorsTo_18 : decode cX11_doorsTo 18 = .ok (.iload_n 1, 1) := by decide +kernel
theorem dX11_doorsTo_19 : decode cX11_doorsTo 19 = .ok (.invokevirtual 180, 3) := by decide +kernel
theorem dX11_doorsTo_22 : decode cX11_doorsTo 22 = .ok (.ireturn, 1) := by decide +kernel
theorem dX11_planOrder_0 : decode cX11_planOrder 0 = .ok (.iload_n 1, 1) := by decide +kernel
theorem dX11_planOrder_1 : decode cX11_planOrder 1 = .ok (.ifCond .lt 9, 3) := by decide +kernel
theorem dX11_planOrder_4 : decode cX11_planOrder 4 = .ok (.iload_n 1, 1) := by decide +kernel
theorem dX11_planOrder_5 : decode cX11_planOrder 5 = .ok (.bipush 6, 2) := by decide +kernel
theorem dX11_planOrder_7 : decode cX11_planOrder 7 = .ok (.if_icmp .lt 6, 3) := by decide +kernel
theorem dX11_planOrder_10 : decode cX11_planOrder 10 = .ok (.bipush (-2), 2) := by decide +kernel
theorem dX11_planOrder_12 : decode cX11_planOrder 12 = .ok (.ireturn, 1) := by decide +kernel
theorem dX11_planOrder_13 : decode cX11_planOrder 13 = .ok (.aload_n 0, 1) := by decide +kernel
theorem dX11_planOrder_14 : decode cX11_planOrder 14 = .ok (.getfield 58, 3) := by decide +kernel
theorem dX11_planOrder_17 : decode cX11_planOrder 17 = .ok (.aload_n 0, 1) := by decide +kernel
theorem dX11_planOrder_18 : decode cX11_planOrder 18 = .ok (.getfield 10, 3) := by decide +kernel
theorem dX11_planOrder_21 : decode cX11_planOrder 21 = .ok (.invokevirtual 107, 3) := by decide +kernel
theorem dX11_planOrder_24 : decode cX11_planOrder 24 = .ok (.aload_n 0, 1) := by decide +kernel
theorem dX11_planOrder_25 : decode cX11_planOrder 25 = .ok (.getfield 58, 3) := by decide +kernel
theorem dX11_planOrder_28 : decode cX11_planOrder 28 = .ok (.iload_n 1, 1) := by decide +kernel
theorem dX11_planOrder_29 : decode cX11_planOrder 29 = .ok (.invokevirtual 123, 3) := by decide +kernel
theorem dX11_planOrder_32 : decode cX11_planOrder 32 = .ok (.ireturn, 1) := by decide +kernel
theorem dX11_planOrders_0 : decode cX11_planOrders 0 = .ok (.aload_n 0, 1) := by decide +kernel
theorem dX11_planOrders_1 : decode cX11_planOrders 1 = .ok (.getfield 58, 3) := by decide +kernel
theorem dX11_planOrders_4 : decode cX11_planOrders 4 = .ok (.aload_n 0, 1) := by decide +kernel
theorem dX11_planOrders_5 : decode cX11_planOrders 5 = .ok (.getfield 10, 3) := by decide +kernel
theorem dX11_planOrders_8 : decode cX11_planOrders 8 = .ok (.invokevirtual 107, 3) := by decide +kernel
theorem dX11_planOrders_11 : decode cX11_planOrders 11 = .ok (.aload_n 0, 1) := by decide +kernel
theorem dX11_planOrders_12 : decode cX11_planOrders 12 = .ok (.getfield 58, 3) := by decide +kernel
theorem dX11_planOrders_15 : decode cX11_planOrders 15 = .ok (.invokevirtual 120, 3) := by decide +kernel
theorem dX11_planOrders_18 : decode cX11_planOrders 18 = .ok (.ireturn, 1) := by decide +kernel
theorem dX11_mustBeLast_0 : decode cX11_mustBeLast 0 = .ok (.aload_n 0, 1) := by decide +kernel
theorem dX11_mustBeLast_1 : decode cX11_mustBeLast 1 = .ok (.getfield 58, 3) := by decide +kernel
theorem dX11_mustBeLast_4 : decode cX11_mustBeLast 4 = .ok (.aload_n 0, 1) := by decide +kernel
theorem dX11_mustBeLast_5 : decode cX11_mustBeLast 5 = .ok (.getfield 10, 3) := by decide +kernel
theorem dX11_mustBeLast_8 : decode cX11_mustBeLast 8 = .ok (.invokevirtual 107, 3) := by decide +kernel
theorem dX11_mustBeLast_11 : decode cX11_mustBeLast 11 = .ok (.aload_n 0, 1) := by decide +kernel
theorem dX11_mustBeLast_12 : decode cX11_mustBeLast 12 = .ok (.getfield 58, 3) := by decide +kernel
theorem dX11_mustBeLast_15 : decode cX11_mustBeLast 15 = .ok (.invokevirtual 183, 3) := by decide +kernel
theorem dX11_mustBeLast_18 : decode cX11_mustBeLast 18 = .ok (.ireturn, 1) := by decide +kernel
theorem dX11_brassForPlan_0 : decode cX11_brassForPlan 0 = .ok (.aload_n 0, 1) := by decide +kernel
theorem dX11_brassForPlan_1 : decode cX11_brassForPlan 1 = .ok (.getfield 58, 3) := by decide +kernel
theorem dX11_brassForPlan_4 : decode cX11_brassForPlan 4 = .ok (.aload_n 0, 1) := by decide +kernel
theorem dX11_brassForPlan_5 : decode cX11_brassForPlan 5 = .ok (.getfield 10, 3) := by decide +kernel
theorem dX11_brassForPlan_8 : decode cX11_brassForPlan 8 = .ok (.invokevirtual 107, 3) := by decide +kernel
theorem dX11_brassForPlan_11 : decode cX11_brassForPlan 11 = .ok (.aload_n 0, 1) := by decide +kernel
theorem dX11_brassForPlan_12 : decode cX11_brassForPlan 12 = .ok (.getfield 58, 3) := by decide +kernel
theorem dX11_brassForPlan_15 : decode cX11_brassForPlan 15 = .ok (.invokevirtual 186, 3) := by decide +kernel
theorem dX11_brassForPlan_18 : decode cX11_brassForPlan 18 = .ok (.ireturn, 1) := by decide +kernel
theorem dX11_recorded_0 : decode cX11_recorded 0 = .ok (.iload_n 1, 1) := by decide +kernel
theorem dX11_recorded_1 : decode cX11_recorded 1 = .ok (.ifCond .lt 18, 3) := by decide +kernel
theorem dX11_recorded_4 : decode cX11_recorded 4 = .ok (.aload_n 0, 1) := by decide +kernel
theorem dX11_recorded_5 : decode cX11_recorded 5 = .ok (.aload_n 0, 1) := by decide +kernel
theorem dX11_recorded_6 : decode cX11_recorded 6 = .ok (.getfield 22, 3) := by decide +kernel
theorem dX11_recorded_9 : decode cX11_recorded 9 = .ok (.aload_n 0, 1) := by decide +kernel
theorem dX11_recorded_10 : decode cX11_recorded 10 = .ok (.getfield 16, 3) := by decide +kernel
theorem dX11_recorded_13 : decode cX11_recorded 13 = .ok (.invokevirtual 220, 3) := by decide +kernel
theorem dX11_recorded_16 : decode cX11_recorded 16 = .ok (.putfield 16, 3) := by decide +kernel
theorem dX11_recorded_19 : decode cX11_recorded 19 = .ok (.iload_n 1, 1) := by decide +kernel
theorem dX11_recorded_20 : decode cX11_recorded 20 = .ok (.ireturn, 1) := by decide +kernel
theorem dL_cell_0 : decode cL_cell 0 = .ok (.aload_n 0, 1) := by decide +kernel
theorem dL_cell_1 : decode cL_cell 1 = .ok (.arraylength, 1) := by decide +kernel
theorem dL_cell_2 : decode cL_cell 2 = .ok (.ifCond .ne 12, 3) := by decide +kernel
theorem dL_cell_5 : decode cL_cell 5 = .ok (.iload_n 1, 1) := by decide +kernel
theorem dL_cell_6 : decode cL_cell 6 = .ok (.bipush 37, 2) := by decide +kernel
theorem dL_cell_8 : decode cL_cell 8 = .ok (.imul, 1) := by decide +kernel
theorem dL_cell_9 : decode cL_cell 9 = .ok (.iconst 5, 1) := by decide +kernel
theorem dL_cell_10 : decode cL_cell 10 = .ok (.iadd, 1) := by decide +kernel
theorem dL_cell_11 : decode cL_cell 11 = .ok (.goto 17, 3) := by decide +kernel
theorem dL_cell_14 : decode cL_cell 14 = .ok (.aload_n 0, 1) := by decide +kernel
theorem dL_cell_15 : decode cL_cell 15 = .ok (.iload_n 1, 1) := by decide +kernel
theorem dL_cell_16 : decode cL_cell 16 = .ok (.aload_n 0, 1) := by decide +kernel
theorem dL_cell_17 : decode cL_cell 17 = .ok (.arraylength, 1) := by decide +kernel
theorem dL_cell_18 : decode cL_cell 18 = .ok (.irem, 1) := by decide +kernel
theorem dL_cell_19 : decode cL_cell 19 = .ok (.iaload, 1) := by decide +kernel
theorem dL_cell_20 : decode cL_cell 20 = .ok (.iload_n 1, 1) := by decide +kernel
theorem dL_cell_21 : decode cL_cell 21 = .ok (.bipush 7, 2) := by decide +kernel
theorem dL_cell_23 : decode cL_cell 23 = .ok (.irem, 1) := by decide +kernel
theorem dL_cell_24 : decode cL_cell 24 = .ok (.ishr, 1) := by decide +kernel
theorem dL_cell_25 : decode cL_cell 25 = .ok (.ldc 7, 2) := by decide +kernel
theorem dL_cell_27 : decode cL_cell 27 = .ok (.iand, 1) := by decide +kernel
theorem dL_cell_28 : decode cL_cell 28 = .ok (.iload_n 2, 1) := by decide +kernel
theorem dL_cell_29 : decode cL_cell 29 = .ok (.irem, 1) := by decide +kernel
theorem dL_cell_30 : decode cL_cell 30 = .ok (.ireturn, 1) := by decide +kernel
theorem dL_has_0 : decode cL_has 0 = .ok (.iload_n 0, 1) := by decide +kernel
theorem dL_has_1 : decode cL_has 1 = .ok (.iload_n 1, 1) := by decide +kernel
theorem dL_has_2 : decode cL_has 2 = .ok (.ishr, 1) := by decide +kernel
theorem dL_has_3 : decode cL_has 3 = .ok (.iconst 1, 1) := by decide +kernel
theorem dL_has_4 : decode cL_has 4 = .ok (.iand, 1) := by decide +kernel
theorem dL_has_5 : decode cL_has 5 = .ok (.iconst 1, 1) := by decide +kernel
theorem dL_has_6 : decode cL_has 6 = .ok (.if_icmp .ne 7, 3) := by decide +kernel
theorem dL_has_9 : decode cL_has 9 = .ok (.iconst 1, 1) := by decide +kernel
theorem dL_has_10 : decode cL_has 10 = .ok (.goto 4, 3) := by decide +kernel
theorem dL_has_13 : decode cL_has 13 = .ok (.iconst 0, 1) := by decide +kernel
theorem dL_has_14 : decode cL_has 14 = .ok (.ireturn, 1) := by decide +kernel
theorem dL_digit_0 : decode cL_digit 0 = .ok (.iload_n 0, 1) := by decide +kernel
theorem dL_digit_1 : decode cL_digit 1 = .ok (.iload_n 1, 1) := by decide +kernel
theorem dL_digit_2 : decode cL_digit 2 = .ok (.ifCond .ne 9, 3) := by decide +kernel
theorem dL_digit_5 : decode cL_digit 5 = .ok (.sipush 1000, 3) := by decide +kernel
theorem dL_digit_8 : decode cL_digit 8 = .ok (.goto 24, 3) := by decide +kernel
theorem dL_digit_11 : decode cL_digit 11 = .ok (.iload_n 1, 1) := by decide +kernel
theorem dL_digit_12 : decode cL_digit 12 = .ok (.iconst 1, 1) := by decide +kernel
theorem dL_digit_13 : decode cL_digit 13 = .ok (.if_icmp .ne 8, 3) := by decide +kernel
theorem dL_digit_16 : decode cL_digit 16 = .ok (.bipush 100, 2) := by decide +kernel
theorem dL_digit_18 : decode cL_digit 18 = .ok (.goto 14, 3) := by decide +kernel
theorem dL_digit_21 : decode cL_digit 21 = .ok (.iload_n 1, 1) := by decide +kernel
theorem dL_digit_22 : decode cL_digit 22 = .ok (.iconst 2, 1) := by decide +kernel
theorem dL_digit_23 : decode cL_digit 23 = .ok (.if_icmp .ne 8, 3) := by decide +kernel
theorem dL_digit_26 : decode cL_digit 26 = .ok (.bipush 10, 2) := by decide +kernel
theorem dL_digit_28 : decode cL_digit 28 = .ok (.goto 4, 3) := by decide +kernel
theorem dL_digit_31 : decode cL_digit 31 = .ok (.iconst 1, 1) := by decide +kernel
theorem dL_digit_32 : decode cL_digit 32 = .ok (.idiv, 1) := by decide +kernel
theorem dL_digit_33 : decode cL_digit 33 = .ok (.bipush 10, 2) := by decide +kernel
theorem dL_digit_35 : decode cL_digit 35 = .ok (.irem, 1) := by decide +kernel
theorem dL_digit_36 : decode cL_digit 36 = .ok (.ireturn, 1) := by decide +kernel
theorem dL_weight_0 : decode cL_weight 0 = .ok (.iconst 4, 1) := by decide +kernel
theorem dL_weight_1 : decode cL_weight 1 = .ok (.istore_n 2, 1) := by decide +kernel
theorem dL_weight_2 : decode cL_weight 2 = .ok (.iconst 0, 1) := by decide +kernel
theorem dL_weight_3 : decode cL_weight 3 = .ok (.istore_n 3, 1) := by decide +kernel
theorem dL_weight_4 : decode cL_weight 4 = .ok (.iload_n 3, 1) := by decide +kernel
theorem dL_weight_5 : decode cL_weight 5 = .ok (.iconst 4, 1) := by decide +kernel
theorem dL_weight_6 : decode cL_weight 6 = .ok (.if_icmp .ge 36, 3) := by decide +kernel
theorem dL_weight_9 : decode cL_weight 9 = .ok (.iload_n 2, 1) := by decide +kernel
theorem dL_weight_10 : decode cL_weight 10 = .ok (.iload_n 0, 1) := by decide +kernel
theorem dL_weight_11 : decode cL_weight 11 = .ok (.iload_n 3, 1) := by decide +kernel
theorem dL_weight_12 : decode cL_weight 12 = .ok (.invokestatic 8, 3) := by decide +kernel
theorem dL_weight_15 : decode cL_weight 15 = .ok (.iload_n 0, 1) := by decide +kernel
theorem dL_weight_16 : decode cL_weight 16 = .ok (.iload_n 3, 1) := by decide +kernel
theorem dL_weight_17 : decode cL_weight 17 = .ok (.invokestatic 8, 3) := by decide +kernel
theorem dL_weight_20 : decode cL_weight 20 = .ok (.iload_n 1, 1) := by decide +kernel
theorem dL_weight_21 : decode cL_weight 21 = .ok (.iload_n 3, 1) := by decide +kernel
theorem dL_weight_22 : decode cL_weight 22 = .ok (.invokestatic 8, 3) := by decide +kernel
theorem dL_weight_25 : decode cL_weight 25 = .ok (.if_icmp .eq 7, 3) := by decide +kernel
theorem dL_weight_28 : decode cL_weight 28 = .ok (.iconst 1, 1) := by decide +kernel
theorem dL_weight_29 : decode cL_weight 29 = .ok (.goto 4, 3) := by decide +kernel
theorem dL_weight_32 : decode cL_weight 32 = .ok (.iconst 0, 1) := by decide +kernel
theorem dL_weight_33 : decode cL_weight 33 = .ok (.iadd, 1) := by decide +kernel
theorem dL_weight_34 : decode cL_weight 34 = .ok (.iadd, 1) := by decide +kernel
theorem dL_weight_35 : decode cL_weight 35 = .ok (.istore_n 2, 1) := by decide +kernel
theorem dL_weight_36 : decode cL_weight 36 = .ok (.iinc 3 1, 3) := by decide +kernel
theorem dL_weight_39 : decode cL_weight 39 = .ok (.goto (-35), 3) := by decide +kernel
theorem dL_weight_42 : decode cL_weight 42 = .ok (.iload_n 2, 1) := by decide +kernel
theorem dL_weight_43 : decode cL_weight 43 = .ok (.ireturn, 1) := by decide +kernel
theorem dL_fits_0 : decode cL_fits 0 = .ok (.iconst 0, 1) := by decide +kernel
theorem dL_fits_1 : decode cL_fits 1 = .ok (.istore_n 3, 1) := by decide +kernel
theorem dL_fits_2 : decode cL_fits 2 = .ok (.iload_n 3, 1) := by decide +kernel
theorem dL_fits_3 : decode cL_fits 3 = .ok (.iconst 4, 1) := by decide +kernel
theorem dL_fits_4 : decode cL_fits 4 = .ok (.if_icmp .ge 38, 3) := by decide +kernel
theorem dL_fits_7 : decode cL_fits 7 = .ok (.iload_n 0, 1) := by decide +kernel
theorem dL_fits_8 : decode cL_fits 8 = .ok (.iload_n 3, 1) := by decide +kernel
theorem dL_fits_9 : decode cL_fits 9 = .ok (.invokestatic 8, 3) := by decide +kernel
theorem dL_fits_12 : decode cL_fits 12 = .ok (.istore 4, 2) := by decide +kernel
theorem dL_fits_14 : decode cL_fits 14 = .ok (.iload 4, 2) := by decide +kernel
theorem dL_fits_16 : decode cL_fits 16 = .ok (.iload_n 1, 1) := by decide +kernel
theorem dL_fits_17 : decode cL_fits 17 = .ok (.iload_n 3, 1) := by decide +kernel
theorem dL_fits_18 : decode cL_fits 18 = .ok (.invokestatic 8, 3) := by decide +kernel
theorem dL_fits_21 : decode cL_fits 21 = .ok (.if_icmp .eq 15, 3) := by decide +kernel
theorem dL_fits_24 : decode cL_fits 24 = .ok (.iload 4, 2) := by decide +kernel
theorem dL_fits_26 : decode cL_fits 26 = .ok (.iload_n 2, 1) := by decide +kernel
theorem dL_fits_27 : decode cL_fits 27 = .ok (.iload_n 3, 1) := by decide +kernel
theorem dL_fits_28 : decode cL_fits 28 = .ok (.invokestatic 8, 3) := by decide +kernel
theorem dL_fits_31 : decode cL_fits 31 = .ok (.if_icmp .eq 5, 3) := by decide +kernel
theorem dL_fits_34 : decode cL_fits 34 = .ok (.iconst 0, 1) := by decide +kernel
theorem dL_fits_35 : decode cL_fits 35 = .ok (.ireturn, 1) := by decide +kernel
theorem dL_fits_36 : decode cL_fits 36 = .ok (.iinc 3 1, 3) := by decide +kernel
theorem dL_fits_39 : decode cL_fits 39 = .ok (.goto (-37), 3) := by decide +kernel
theorem dL_fits_42 : decode cL_fits 42 = .ok (.iconst 1, 1) := by decide +kernel
theorem dL_fits_43 : decode cL_fits 43 = .ok (.ireturn, 1) := by decide +kernel
theorem dL_isKey_0 : decode cL_isKey 0 = .ok (.iconst 0, 1) := by decide +kernel
theorem dL_isKey_1 : decode cL_isKey 1 = .ok (.istore_n 2, 1) := by decide +kernel
theorem dL_isKey_2 : decode cL_isKey 2 = .ok (.iload_n 2, 1) := by decide +kernel
theorem dL_isKey_3 : decode cL_isKey 3 = .ok (.iconst 3, 1) := by decide +kernel
theorem dL_isKey_4 : decode cL_isKey 4 = .ok (.if_icmp .ge 36, 3) := by decide +kernel
theorem dL_isKey_7 : decode cL_isKey 7 = .ok (.iload_n 0, 1) := by decide +kernel
theorem dL_isKey_8 : decode cL_isKey 8 = .ok (.iload_n 2, 1) := by decide +kernel
theorem dL_isKey_9 : decode cL_isKey 9 = .ok (.invokestatic 8, 3) := by decide +kernel
theorem dL_isKey_12 : decode cL_isKey 12 = .ok (.iload_n 0, 1) := by decide +kernel
theorem dL_isKey_13 : decode cL_isKey 13 = .ok (.iload_n 2, 1) := by decide +kernel
theorem dL_isKey_14 : decode cL_isKey 14 = .ok (.iconst 1, 1) := by decide +kernel
theorem dL_isKey_15 : decode cL_isKey 15 = .ok (.iadd, 1) := by decide +kernel
theorem dL_isKey_16 : decode cL_isKey 16 = .ok (.invokestatic 8, 3) := by decide +kernel
theorem dL_isKey_19 : decode cL_isKey 19 = .ok (.isub, 1) := by decide +kernel
theorem dL_isKey_20 : decode cL_isKey 20 = .ok (.istore_n 3, 1) := by decide +kernel
theorem dL_isKey_21 : decode cL_isKey 21 = .ok (.iload_n 3, 1) := by decide +kernel
theorem dL_isKey_22 : decode cL_isKey 22 = .ok (.iload_n 1, 1) := by decide +kernel
theorem dL_isKey_23 : decode cL_isKey 23 = .ok (.if_icmp .gt 9, 3) := by decide +kernel
theorem dL_isKey_26 : decode cL_isKey 26 = .ok (.iload_n 3, 1) := by decide +kernel
theorem dL_isKey_27 : decode cL_isKey 27 = .ok (.iload_n 1, 1) := by decide +kernel
theorem dL_isKey_28 : decode cL_isKey 28 = .ok (.ineg, 1) := by decide +kernel
theorem dL_isKey_29 : decode cL_isKey 29 = .ok (.if_icmp .ge 5, 3) := by decide +kernel
theorem dL_isKey_32 : decode cL_isKey 32 = .ok (.iconst 0, 1) := by decide +kernel
theorem dL_isKey_33 : decode cL_isKey 33 = .ok (.ireturn, 1) := by decide +kernel
theorem dL_isKey_34 : decode cL_isKey 34 = .ok (.iinc 2 1, 3) := by decide +kernel
theorem dL_isKey_37 : decode cL_isKey 37 = .ok (.goto (-35), 3) := by decide +kernel
theorem dL_isKey_40 : decode cL_isKey 40 = .ok (.iconst 1, 1) := by decide +kernel
theorem dL_isKey_41 : decode cL_isKey 41 = .ok (.ireturn, 1) := by decide +kernel
theorem dL_loss_0 : decode cL_loss 0 = .ok (.iload_n 1, 1) := by decide +kernel
theorem dL_loss_1 : decode cL_loss 1 = .ok (.aload_n 0, 1) := by decide +kernel
theorem dL_loss_2 : decode cL_loss 2 = .ok (.bipush 14, 2) := by decide +kernel
theorem dL_loss_4 : decode cL_loss 4 = .ok (.invokevirtual 14, 3) := by decide +kernel
theorem dL_loss_7 : decode cL_loss 7 = .ok (.imul, 1) := by decide +kernel
theorem dL_loss_8 : decode cL_loss 8 = .ok (.istore_n 2, 1) := by decide +kernel
theorem dL_loss_9 : decode cL_loss 9 = .ok (.iload_n 2, 1) := by decide +kernel
theorem dL_loss_10 : decode cL_loss 10 = .ok (.bipush 100, 2) := by decide +kernel
theorem dL_loss_12 : decode cL_loss 12 = .ok (.idiv, 1) := by decide +kernel
theorem dL_loss_13 : decode cL_loss 13 = .ok (.iload_n 2, 1) := by decide +kernel
theorem dL_loss_14 : decode cL_loss 14 = .ok (.bipush 100, 2) := by decide +kernel
theorem dL_loss_16 : decode cL_loss 16 = .ok (.irem, 1) := by decide +kernel
theorem dL_loss_17 : decode cL_loss 17 = .ok (.ifCond .le 7, 3) := by decide +kernel
theorem dL_loss_20 : decode cL_loss 20 = .ok (.iconst 1, 1) := by decide +kernel
theorem dL_loss_21 : decode cL_loss 21 = .ok (.goto 4, 3) := by decide +kernel
theorem dL_loss_24 : decode cL_loss 24 = .ok (.iconst 0, 1) := by decide +kernel
theorem dL_loss_25 : decode cL_loss 25 = .ok (.iadd, 1) := by decide +kernel
theorem dL_loss_26 : decode cL_loss 26 = .ok (.ireturn, 1) := by decide +kernel
theorem dL_agree_0 : decode cL_agree 0 = .ok (.iconst 0, 1) := by decide +kernel
theorem dL_agree_1 : decode cL_agree 1 = .ok (.istore_n 1, 1) := by decide +kernel
theorem dL_agree_2 : decode cL_agree 2 = .ok (.iconst 0, 1) := by decide +kernel
theorem dL_agree_3 : decode cL_agree 3 = .ok (.istore_n 2, 1) := by decide +kernel
theorem dL_agree_4 : decode cL_agree 4 = .ok (.iload_n 2, 1) := by decide +kernel
theorem dL_agree_5 : decode cL_agree 5 = .ok (.aload_n 0, 1) := by decide +kernel
theorem dL_agree_6 : decode cL_agree 6 = .ok (.iconst 2, 1) := by decide +kernel
theorem dL_agree_7 : decode cL_agree 7 = .ok (.invokevirtual 14, 3) := by decide +kernel
theorem dL_agree_10 : decode cL_agree 10 = .ok (.if_icmp .ge 161, 3) := by decide +kernel
theorem dL_agree_13 : decode cL_agree 13 = .ok (.aload_n 0, 1) := by decide +kernel
theorem dL_agree_14 : decode cL_agree 14 = .ok (.iload_n 2, 1) := by decide +kernel
theorem dL_agree_15 : decode cL_agree 15 = .ok (.iconst 2, 1) := by decide +kernel
theorem dL_agree_16 : decode cL_agree 16 = .ok (.invokevirtual 20, 3) := by decide +kernel
theorem dL_agree_19 : decode cL_agree 19 = .ok (.istore_n 3, 1) := by decide +kernel
theorem dL_agree_20 : decode cL_agree 20 = .ok (.aload_n 0, 1) := by decide +kernel
theorem dL_agree_21 : decode cL_agree 21 = .ok (.iload_n 2, 1) := by decide +kernel
theorem dL_agree_22 : decode cL_agree 22 = .ok (.iconst 3, 1) := by decide +kernel
theorem dL_agree_23 : decode cL_agree 23 = .ok (.invokevirtual 20, 3) := by decide +kernel
theorem dL_agree_26 : decode cL_agree 26 = .ok (.istore 4, 2) := by decide +kernel
theorem dL_agree_28 : decode cL_agree 28 = .ok (.iload_n 1, 1) := by decide +kernel
theorem dL_agree_29 : decode cL_agree 29 = .ok (.aload_n 0, 1) := by decide +kernel
theorem dL_agree_30 : decode cL_agree 30 = .ok (.iload_n 2, 1) := by decide +kernel
theorem dL_agree_31 : decode cL_agree 31 = .ok (.iconst 4, 1) := by decide +kernel
theorem dL_agree_32 : decode cL_agree 32 = .ok (.invokevirtual 20, 3) := by decide +kernel
theorem dL_agree_35 : decode cL_agree 35 = .ok (.iadd, 1) := by decide +kernel
theorem dL_agree_36 : decode cL_agree 36 = .ok (.istore_n 1, 1) := by decide +kernel
theorem dL_agree_37 : decode cL_agree 37 = .ok (.iconst 0, 1) := by decide +kernel
theorem dL_agree_38 : decode cL_agree 38 = .ok (.istore 5, 2) := by decide +kernel
theorem dL_agree_40 : decode cL_agree 40 = .ok (.iconst 0, 1) := by decide +kernel
theorem dL_agree_41 : decode cL_agree 41 = .ok (.istore 6, 2) := by decide +kernel
theorem dL_agree_43 : decode cL_agree 43 = .ok (.iload 6, 2) := by decide +kernel
theorem dL_agree_45 : decode cL_agree 45 = .ok (.aload_n 0, 1) := by decide +kernel
theorem dL_agree_46 : decode cL_agree 46 = .ok (.iconst 3, 1) := by decide +kernel
theorem dL_agree_47 : decode cL_agree 47 = .ok (.invokevirtual 14, 3) := by decide +kernel
theorem dL_agree_50 : decode cL_agree 50 = .ok (.if_icmp .ge 50, 3) := by decide +kernel
theorem dL_agree_53 : decode cL_agree 53 = .ok (.iload 5, 2) := by decide +kernel
theorem dL_agree_55 : decode cL_agree 55 = .ok (.aload_n 0, 1) := by decide +kernel
theorem dL_agree_56 : decode cL_agree 56 = .ok (.iload 6, 2) := by decide +kernel
theorem dL_agree_58 : decode cL_agree 58 = .ok (.iconst 2, 1) := by decide +kernel
theorem dL_agree_59 : decode cL_agree 59 = .ok (.invokevirtual 23, 3) := by decide +kernel
theorem dL_agree_62 : decode cL_agree 62 = .ok (.bipush 9, 2) := by decide +kernel
theorem dL_agree_64 : decode cL_agree 64 = .ok (.if_icmp .eq 26, 3) := by decide +kernel
theorem dL_agree_67 : decode cL_agree 67 = .ok (.aload_n 0, 1) := by decide +kernel
theorem dL_agree_68 : decode cL_agree 68 = .ok (.iload 6, 2) := by decide +kernel
theorem dL_agree_70 : decode cL_agree 70 = .ok (.iconst 0, 1) := by decide +kernel
theorem dL_agree_71 : decode cL_agree 71 = .ok (.invokevirtual 23, 3) := by decide +kernel
theorem dL_agree_74 : decode cL_agree 74 = .ok (.iload_n 3, 1) := by decide +kernel
theorem dL_agree_75 : decode cL_agree 75 = .ok (.iload 4, 2) := by decide +kernel
theorem dL_agree_77 : decode cL_agree 77 = .ok (.invokestatic 26, 3) := by decide +kernel
theorem dL_agree_80 : decode cL_agree 80 = .ok (.ifCond .eq 10, 3) := by decide +kernel
theorem dL_agree_83 : decode cL_agree 83 = .ok (.iconst 1, 1) := by decide +kernel
theorem dL_agree_84 : decode cL_agree 84 = .ok (.iload 6, 2) := by decide +kernel
theorem dL_agree_86 : decode cL_agree 86 = .ok (.ishl, 1) := by decide +kernel
theorem dL_agree_87 : decode cL_agree 87 = .ok (.goto 4, 3) := by decide +kernel
theorem dL_agree_90 : decode cL_agree 90 = .ok (.iconst 0, 1) := by decide +kernel
theorem dL_agree_91 : decode cL_agree 91 = .ok (.ior, 1) := by decide +kernel
theorem dL_agree_92 : decode cL_agree 92 = .ok (.istore 5, 2) := by decide +kernel
theorem dL_agree_94 : decode cL_agree 94 = .ok (.iinc 6 1, 3) := by decide +kernel
theorem dL_agree_97 : decode cL_agree 97 = .ok (.goto (-54), 3) := by decide +kernel
theorem dL_agree_100 : decode cL_agree 100 = .ok (.aload_n 0, 1) := by decide +kernel
theorem dL_agree_101 : decode cL_agree 101 = .ok (.iload_n 2, 1) := by decide +kernel
theorem dL_agree_102 : decode cL_agree 102 = .ok (.iconst 4, 1) := by decide +kernel
theorem dL_agree_103 : decode cL_agree 103 = .ok (.invokevirtual 20, 3) := by decide +kernel
theorem dL_agree_106 : decode cL_agree 106 = .ok (.iload_n 3, 1) := by decide +kernel
theorem dL_agree_107 : decode cL_agree 107 = .ok (.iload 4, 2) := by decide +kernel
theorem dL_agree_109 : decode cL_agree 109 = .ok (.invokestatic 30, 3) := by decide +kernel
theorem dL_agree_112 : decode cL_agree 112 = .ok (.if_icmp .ne 51, 3) := by decide +kernel
theorem dL_agree_115 : decode cL_agree 115 = .ok (.aload_n 0, 1) := by decide +kernel
theorem dL_agree_116 : decode cL_agree 116 = .ok (.iload_n 2, 1) := by decide +kernel
theorem dL_agree_117 : decode cL_agree 117 = .ok (.bipush 6, 2) := by decide +kernel
theorem dL_agree_119 : decode cL_agree 119 = .ok (.invokevirtual 20, 3) := by decide +kernel
theorem dL_agree_122 : decode cL_agree 122 = .ok (.iload 5, 2) := by decide +kernel
theorem dL_agree_124 : decode cL_agree 124 = .ok (.if_icmp .ne 39, 3) := by decide +kernel
theorem dL_agree_127 : decode cL_agree 127 = .ok (.aload_n 0, 1) := by decide +kernel
theorem dL_agree_128 : decode cL_agree 128 = .ok (.iload_n 2, 1) := by decide +kernel
theorem dL_agree_129 : decode cL_agree 129 = .ok (.iconst 0, 1) := by decide +kernel
theorem dL_agree_130 : decode cL_agree 130 = .ok (.invokevirtual 20, 3) := by decide +kernel
theorem dL_agree_133 : decode cL_agree 133 = .ok (.aload_n 0, 1) := by decide +kernel
theorem dL_agree_134 : decode cL_agree 134 = .ok (.iload_n 2, 1) := by decide +kernel
theorem dL_agree_135 : decode cL_agree 135 = .ok (.iconst 1, 1) := by decide +kernel
theorem dL_agree_136 : decode cL_agree 136 = .ok (.invokevirtual 20, 3) := by decide +kernel
theorem dL_agree_139 : decode cL_agree 139 = .ok (.if_icmp .eq 24, 3) := by decide +kernel
theorem dL_agree_142 : decode cL_agree 142 = .ok (.aload_n 0, 1) := by decide +kernel
theorem dL_agree_143 : decode cL_agree 143 = .ok (.iload_n 3, 1) := by decide +kernel
theorem dL_agree_144 : decode cL_agree 144 = .ok (.iload_n 2, 1) := by decide +kernel
theorem dL_agree_145 : decode cL_agree 145 = .ok (.invokevirtual 33, 3) := by decide +kernel
theorem dL_agree_148 : decode cL_agree 148 = .ok (.iconst 1, 1) := by decide +kernel
theorem dL_agree_149 : decode cL_agree 149 = .ok (.if_icmp .ne 14, 3) := by decide +kernel
theorem dL_agree_152 : decode cL_agree 152 = .ok (.aload_n 0, 1) := by decide +kernel
theorem dL_agree_153 : decode cL_agree 153 = .ok (.iload 4, 2) := by decide +kernel
theorem dL_agree_155 : decode cL_agree 155 = .ok (.iload_n 2, 1) := by decide +kernel
theorem dL_agree_156 : decode cL_agree 156 = .ok (.invokevirtual 33, 3) := by decide +kernel
theorem dL_agree_159 : decode cL_agree 159 = .ok (.iconst 1, 1) := by decide +kernel
theorem dL_agree_160 : decode cL_agree 160 = .ok (.if_icmp .eq 5, 3) := by decide +kernel
theorem dL_agree_163 : decode cL_agree 163 = .ok (.iconst 0, 1) := by decide +kernel
theorem dL_agree_164 : decode cL_agree 164 = .ok (.ireturn, 1) := by decide +kernel
theorem dL_agree_165 : decode cL_agree 165 = .ok (.iinc 2 1, 3) := by decide +kernel
theorem dL_agree_168 : decode cL_agree 168 = .ok (.goto (-164), 3) := by decide +kernel
theorem dL_agree_171 : decode cL_agree 171 = .ok (.iconst 0, 1) := by decide +kernel
theorem dL_agree_172 : decode cL_agree 172 = .ok (.istore_n 2, 1) := by decide +kernel
theorem dL_agree_173 : decode cL_agree 173 = .ok (.iconst 0, 1) := by decide +kernel
theorem dL_agree_174 : decode cL_agree 174 = .ok (.istore_n 3, 1) := by decide +kernel
theorem dL_agree_175 : decode cL_agree 175 = .ok (.iconst 0, 1) := by decide +kernel
theorem dL_agree_176 : decode cL_agree 176 = .ok (.istore 4, 2) := by decide +kernel
theorem dL_agree_178 : decode cL_agree 178 = .ok (.iload 4, 2) := by decide +kernel
theorem dL_agree_180 : decode cL_agree 180 = .ok (.aload_n 0, 1) := by decide +kernel
theorem dL_agree_181 : decode cL_agree 181 = .ok (.iconst 3, 1) := by decide +kernel
theorem dL_agree_182 : decode cL_agree 182 = .ok (.invokevirtual 14, 3) := by decide +kernel
theorem dL_agree_185 : decode cL_agree 185 = .ok (.if_icmp .ge 142, 3) := by decide +kernel
theorem dL_agree_188 : decode cL_agree 188 = .ok (.iload_n 2, 1) := by decide +kernel
theorem dL_agree_189 : decode cL_agree 189 = .ok (.aload_n 0, 1) := by decide +kernel
theorem dL_agree_190 : decode cL_agree 190 = .ok (.iload 4, 2) := by decide +kernel
theorem dL_agree_192 : decode cL_agree 192 = .ok (.iconst 1, 1) := by decide +kernel
theorem dL_agree_193 : decode cL_agree 193 = .ok (.invokevirtual 23, 3) := by decide +kernel
theorem dL_agree_196 : decode cL_agree 196 = .ok (.iadd, 1) := by decide +kernel
theorem dL_agree_197 : decode cL_agree 197 = .ok (.istore_n 2, 1) := by decide +kernel
theorem dL_agree_198 : decode cL_agree 198 = .ok (.iload_n 3, 1) := by decide +kernel
theorem dL_agree_199 : decode cL_agree 199 = .ok (.aload_n 0, 1) := by decide +kernel
theorem dL_agree_200 : decode cL_agree 200 = .ok (.iload 4, 2) := by decide +kernel
theorem dL_agree_202 : decode cL_agree 202 = .ok (.iconst 2, 1) := by decide +kernel
theorem dL_agree_203 : decode cL_agree 203 = .ok (.invokevirtual 23, 3) := by decide +kernel
theorem dL_agree_206 : decode cL_agree 206 = .ok (.bipush 8, 2) := by decide +kernel
theorem dL_agree_208 : decode cL_agree 208 = .ok (.if_icmp .ne 10, 3) := by decide +kernel
theorem dL_agree_211 : decode cL_agree 211 = .ok (.iconst 1, 1) := by decide +kernel
theorem dL_agree_212 : decode cL_agree 212 = .ok (.iload 4, 2) := by decide +kernel
theorem dL_agree_214 : decode cL_agree 214 = .ok (.ishl, 1) := by decide +kernel
theorem dL_agree_215 : decode cL_agree 215 = .ok (.goto 4, 3) := by decide +kernel
theorem dL_agree_218 : decode cL_agree 218 = .ok (.iconst 0, 1) := by decide +kernel
theorem dL_agree_219 : decode cL_agree 219 = .ok (.ior, 1) := by decide +kernel
theorem dL_agree_220 : decode cL_agree 220 = .ok (.istore_n 3, 1) := by decide +kernel
theorem dL_agree_221 : decode cL_agree 221 = .ok (.iconst 0, 1) := by decide +kernel
theorem dL_agree_222 : decode cL_agree 222 = .ok (.istore 5, 2) := by decide +kernel
theorem dL_agree_224 : decode cL_agree 224 = .ok (.iconst 0, 1) := by decide +kernel
theorem dL_agree_225 : decode cL_agree 225 = .ok (.istore 6, 2) := by decide +kernel
theorem dL_agree_227 : decode cL_agree 227 = .ok (.iload 6, 2) := by decide +kernel
theorem dL_agree_229 : decode cL_agree 229 = .ok (.aload_n 0, 1) := by decide +kernel
theorem dL_agree_230 : decode cL_agree 230 = .ok (.iconst 2, 1) := by decide +kernel
theorem dL_agree_231 : decode cL_agree 231 = .ok (.invokevirtual 14, 3) := by decide +kernel
theorem dL_agree_234 : decode cL_agree 234 = .ok (.if_icmp .ge 38, 3) := by decide +kernel
theorem dL_agree_237 : decode cL_agree 237 = .ok (.iload 5, 2) := by decide +kernel
theorem dL_agree_239 : decode cL_agree 239 = .ok (.aload_n 0, 1) := by decide +kernel
theorem dL_agree_240 : decode cL_agree 240 = .ok (.iload 6, 2) := by decide +kernel
theorem dL_agree_242 : decode cL_agree 242 = .ok (.bipush 6, 2) := by decide +kernel
theorem dL_agree_244 : decode cL_agree 244 = .ok (.invokevirtual 20, 3) := by decide +kernel
theorem dL_agree_247 : decode cL_agree 247 = .ok (.iload 4, 2) := by decide +kernel
theorem dL_agree_249 : decode cL_agree 249 = .ok (.invokestatic 36, 3) := by decide +kernel
theorem dL_agree_252 : decode cL_agree 252 = .ok (.ifCond .eq 10, 3) := by decide +kernel
theorem dL_agree_255 : decode cL_agree 255 = .ok (.iconst 1, 1) := by decide +kernel
theorem dL_agree_256 : decode cL_agree 256 = .ok (.iload 6, 2) := by decide +kernel
theorem dL_agree_258 : decode cL_agree 258 = .ok (.ishl, 1) := by decide +kernel
theorem dL_agree_259 : decode cL_agree 259 = .ok (.goto 4, 3) := by decide +kernel
theorem dL_agree_262 : decode cL_agree 262 = .ok (.iconst 0, 1) := by decide +kernel
theorem dL_agree_263 : decode cL_agree 263 = .ok (.ior, 1) := by decide +kernel
theorem dL_agree_264 : decode cL_agree 264 = .ok (.istore 5, 2) := by decide +kernel
theorem dL_agree_266 : decode cL_agree 266 = .ok (.iinc 6 1, 3) := by decide +kernel
theorem dL_agree_269 : decode cL_agree 269 = .ok (.goto (-42), 3) := by decide +kernel
theorem dL_agree_272 : decode cL_agree 272 = .ok (.aload_n 0, 1) := by decide +kernel
theorem dL_agree_273 : decode cL_agree 273 = .ok (.iload 4, 2) := by decide +kernel
theorem dL_agree_275 : decode cL_agree 275 = .ok (.iconst 3, 1) := by decide +kernel
theorem dL_agree_276 : decode cL_agree 276 = .ok (.invokevirtual 23, 3) := by decide +kernel
theorem dL_agree_279 : decode cL_agree 279 = .ok (.iload 5, 2) := by decide +kernel
theorem dL_agree_281 : decode cL_agree 281 = .ok (.if_icmp .ne 38, 3) := by decide +kernel
theorem dL_agree_284 : decode cL_agree 284 = .ok (.aload_n 0, 1) := by decide +kernel
theorem dL_agree_285 : decode cL_agree 285 = .ok (.iload 4, 2) := by decide +kernel
theorem dL_agree_287 : decode cL_agree 287 = .ok (.iconst 1, 1) := by decide +kernel
theorem dL_agree_288 : decode cL_agree 288 = .ok (.invokevirtual 23, 3) := by decide +kernel
theorem dL_agree_291 : decode cL_agree 291 = .ok (.ifCond .ne 7, 3) := by decide +kernel
theorem dL_agree_294 : decode cL_agree 294 = .ok (.iconst 1, 1) := by decide +kernel
theorem dL_agree_295 : decode cL_agree 295 = .ok (.goto 4, 3) := by decide +kernel
theorem dL_agree_298 : decode cL_agree 298 = .ok (.iconst 0, 1) := by decide +kernel
theorem dL_agree_299 : decode cL_agree 299 = .ok (.aload_n 0, 1) := by decide +kernel
theorem dL_agree_300 : decode cL_agree 300 = .ok (.iload 4, 2) := by decide +kernel
theorem dL_agree_302 : decode cL_agree 302 = .ok (.iconst 2, 1) := by decide +kernel
theorem dL_agree_303 : decode cL_agree 303 = .ok (.invokevirtual 23, 3) := by decide +kernel
theorem dL_agree_306 : decode cL_agree 306 = .ok (.bipush 9, 2) := by decide +kernel
theorem dL_agree_308 : decode cL_agree 308 = .ok (.if_icmp .ne 7, 3) := by decide +kernel
theorem dL_agree_311 : decode cL_agree 311 = .ok (.iconst 1, 1) := by decide +kernel
theorem dL_agree_312 : decode cL_agree 312 = .ok (.goto 4, 3) := by decide +kernel
theorem dL_agree_315 : decode cL_agree 315 = .ok (.iconst 0, 1) := by decide +kernel
theorem dL_agree_316 : decode cL_agree 316 = .ok (.if_icmp .eq 5, 3) := by decide +kernel
theorem dL_agree_319 : decode cL_agree 319 = .ok (.iconst 0, 1) := by decide +kernel
theorem dL_agree_320 : decode cL_agree 320 = .ok (.ireturn, 1) := by decide +kernel
theorem dL_agree_321 : decode cL_agree 321 = .ok (.iinc 4 1, 3) := by decide +kernel
theorem dL_agree_324 : decode cL_agree 324 = .ok (.goto (-146), 3) := by decide +kernel
theorem dL_agree_327 : decode cL_agree 327 = .ok (.aload_n 0, 1) := by decide +kernel
theorem dL_agree_328 : decode cL_agree 328 = .ok (.iconst 1, 1) := by decide +kernel
theorem dL_agree_329 : decode cL_agree 329 = .ok (.invokevirtual 14, 3) := by decide +kernel
theorem dL_agree_332 : decode cL_agree 332 = .ok (.iload_n 3, 1) := by decide +kernel
theorem dL_agree_333 : decode cL_agree 333 = .ok (.if_icmp .ne 60, 3) := by decide +kernel
theorem dL_agree_336 : decode cL_agree 336 = .ok (.aload_n 0, 1) := by decide +kernel
theorem dL_agree_337 : decode cL_agree 337 = .ok (.iconst 5, 1) := by decide +kernel
theorem dL_agree_338 : decode cL_agree 338 = .ok (.invokevirtual 14, 3) := by decide +kernel
theorem dL_agree_341 : decode cL_agree 341 = .ok (.iload_n 1, 1) := by decide +kernel
theorem dL_agree_342 : decode cL_agree 342 = .ok (.if_icmp .ne 51, 3) := by decide +kernel
theorem dL_agree_345 : decode cL_agree 345 = .ok (.aload_n 0, 1) := by decide +kernel
theorem dL_agree_346 : decode cL_agree 346 = .ok (.bipush 6, 2) := by decide +kernel
theorem dL_agree_348 : decode cL_agree 348 = .ok (.invokevirtual 14, 3) := by decide +kernel
theorem dL_agree_351 : decode cL_agree 351 = .ok (.iload_n 2, 1) := by decide +kernel
theorem dL_agree_352 : decode cL_agree 352 = .ok (.if_icmp .ne 41, 3) := by decide +kernel
theorem dL_agree_355 : decode cL_agree 355 = .ok (.aload_n 0, 1) := by decide +kernel
theorem dL_agree_356 : decode cL_agree 356 = .ok (.iconst 4, 1) := by decide +kernel
theorem dL_agree_357 : decode cL_agree 357 = .ok (.invokevirtual 14, 3) := by decide +kernel
theorem dL_agree_360 : decode cL_agree 360 = .ok (.iload_n 1, 1) := by decide +kernel
theorem dL_agree_361 : decode cL_agree 361 = .ok (.iload_n 2, 1) := by decide +kernel
theorem dL_agree_362 : decode cL_agree 362 = .ok (.iadd, 1) := by decide +kernel
theorem dL_agree_363 : decode cL_agree 363 = .ok (.aload_n 0, 1) := by decide +kernel
theorem dL_agree_364 : decode cL_agree 364 = .ok (.bipush 7, 2) := by decide +kernel
theorem dL_agree_366 : decode cL_agree 366 = .ok (.invokevirtual 14, 3) := by decide +kernel
theorem dL_agree_369 : decode cL_agree 369 = .ok (.iadd, 1) := by decide +kernel
theorem dL_agree_370 : decode cL_agree 370 = .ok (.aload_n 0, 1) := by decide +kernel
theorem dL_agree_371 : decode cL_agree 371 = .ok (.bipush 8, 2) := by decide +kernel
theorem dL_agree_373 : decode cL_agree 373 = .ok (.invokevirtual 14, 3) := by decide +kernel
theorem dL_agree_376 : decode cL_agree 376 = .ok (.iadd, 1) := by decide +kernel
theorem dL_agree_377 : decode cL_agree 377 = .ok (.if_icmp .ne 16, 3) := by decide +kernel
theorem dL_agree_380 : decode cL_agree 380 = .ok (.aload_n 0, 1) := by decide +kernel
theorem dL_agree_381 : decode cL_agree 381 = .ok (.bipush 7, 2) := by decide +kernel
theorem dL_agree_383 : decode cL_agree 383 = .ok (.invokevirtual 14, 3) := by decide +kernel
theorem dL_agree_386 : decode cL_agree 386 = .ok (.ifCond .lt 7, 3) := by decide +kernel
theorem dL_agree_389 : decode cL_agree 389 = .ok (.iconst 1, 1) := by decide +kernel
theorem dL_agree_390 : decode cL_agree 390 = .ok (.goto 4, 3) := by decide +kernel
theorem dL_agree_393 : decode cL_agree 393 = .ok (.iconst 0, 1) := by decide +kernel
theorem dL_agree_394 : decode cL_agree 394 = .ok (.ireturn, 1) := by decide +kernel
theorem dL_isDoor_0 : decode cL_isDoor 0 = .ok (.aload_n 0, 1) := by decide +kernel
theorem dL_isDoor_1 : decode cL_isDoor 1 = .ok (.iconst 2, 1) := by decide +kernel
theorem dL_isDoor_2 : decode cL_isDoor 2 = .ok (.invokevirtual 14, 3) := by decide +kernel
theorem dL_isDoor_5 : decode cL_isDoor 5 = .ok (.istore 5, 2) := by decide +kernel
theorem dL_isDoor_7 : decode cL_isDoor 7 = .ok (.aload_n 0, 1) := by decide +kernel
theorem dL_isDoor_8 : decode cL_isDoor 8 = .ok (.bipush 7, 2) := by decide +kernel
theorem dL_isDoor_10 : decode cL_isDoor 10 = .ok (.invokevirtual 14, 3) := by decide +kernel
theorem dL_isDoor_13 : decode cL_isDoor 13 = .ok (.istore 6, 2) := by decide +kernel
theorem dL_isDoor_15 : decode cL_isDoor 15 = .ok (.aload_n 0, 1) := by decide +kernel
theorem dL_isDoor_16 : decode cL_isDoor 16 = .ok (.iload_n 1, 1) := by decide +kernel
theorem dL_isDoor_17 : decode cL_isDoor 17 = .ok (.iload_n 2, 1) := by decide +kernel
theorem dL_isDoor_18 : decode cL_isDoor 18 = .ok (.iload_n 3, 1) := by decide +kernel
theorem dL_isDoor_19 : decode cL_isDoor 19 = .ok (.iload 4, 2) := by decide +kernel
theorem dL_isDoor_21 : decode cL_isDoor 21 = .ok (.invokevirtual 40, 3) := by decide +kernel
theorem dL_isDoor_24 : decode cL_isDoor 24 = .ok (.istore 7, 2) := by decide +kernel
theorem dL_isDoor_26 : decode cL_isDoor 26 = .ok (.iload_n 1, 1) := by decide +kernel
theorem dL_isDoor_27 : decode cL_isDoor 27 = .ok (.iload_n 2, 1) := by decide +kernel
theorem dL_isDoor_28 : decode cL_isDoor 28 = .ok (.if_icmp .ne 26, 3) := by decide +kernel
theorem dL_isDoor_31 : decode cL_isDoor 31 = .ok (.iload 7, 2) := by decide +kernel
theorem dL_isDoor_33 : decode cL_isDoor 33 = .ok (.bipush (-2), 2) := by decide +kernel
theorem dL_isDoor_35 : decode cL_isDoor 35 = .ok (.if_icmp .ne 17, 3) := by decide +kernel
theorem dL_isDoor_38 : decode cL_isDoor 38 = .ok (.aload_n 0, 1) := by decide +kernel
theorem dL_isDoor_39 : decode cL_isDoor 39 = .ok (.iconst 2, 1) := by decide +kernel
theorem dL_isDoor_40 : decode cL_isDoor 40 = .ok (.invokevirtual 14, 3) := by decide +kernel
theorem dL_isDoor_43 : decode cL_isDoor 43 = .ok (.iload 5, 2) := by decide +kernel
theorem dL_isDoor_45 : decode cL_isDoor 45 = .ok (.if_icmp .ne 7, 3) := by decide +kernel
theorem dL_isDoor_48 : decode cL_isDoor 48 = .ok (.iconst 1, 1) := by decide +kernel
theorem dL_isDoor_49 : decode cL_isDoor 49 = .ok (.goto 4, 3) := by decide +kernel
theorem dL_isDoor_52 : decode cL_isDoor 52 = .ok (.iconst 0, 1) := by decide +kernel
theorem dL_isDoor_53 : decode cL_isDoor 53 = .ok (.ireturn, 1) := by decide +kernel
theorem dL_isDoor_54 : decode cL_isDoor 54 = .ok (.iload 5, 2) := by decide +kernel
theorem dL_isDoor_56 : decode cL_isDoor 56 = .ok (.bipush 10, 2) := by decide +kernel
theorem dL_isDoor_58 : decode cL_isDoor 58 = .ok (.if_icmp .eq 14, 3) := by decide +kernel
theorem dL_isDoor_61 : decode cL_isDoor 61 = .ok (.iload 6, 2) := by decide +kernel
theorem dL_isDoor_63 : decode cL_isDoor 63 = .ok (.iload_n 3, 1) := by decide +kernel
theorem dL_isDoor_64 : decode cL_isDoor 64 = .ok (.iload 4, 2) := by decide +kernel
theorem dL_isDoor_66 : decode cL_isDoor 66 = .ok (.invokestatic 30, 3) := by decide +kernel
theorem dL_isDoor_69 : decode cL_isDoor 69 = .ok (.if_icmp .ge 49, 3) := by decide +kernel
theorem dL_isDoor_72 : decode cL_isDoor 72 = .ok (.iload 7, 2) := by decide +kernel
theorem dL_isDoor_74 : decode cL_isDoor 74 = .ok (.iload 5, 2) := by decide +kernel
theorem dL_isDoor_76 : decode cL_isDoor 76 = .ok (.bipush 10, 2) := by decide +kernel
theorem dL_isDoor_78 : decode cL_isDoor 78 = .ok (.if_icmp .ne 8, 3) := by decide +kernel
theorem dL_isDoor_81 : decode cL_isDoor 81 = .ok (.bipush (-4), 2) := by decide +kernel
theorem dL_isDoor_83 : decode cL_isDoor 83 = .ok (.goto 5, 3) := by decide +kernel
theorem dL_isDoor_86 : decode cL_isDoor 86 = .ok (.bipush (-5), 2) := by decide +kernel
theorem dL_isDoor_88 : decode cL_isDoor 88 = .ok (.if_icmp .ne 28, 3) := by decide +kernel
theorem dL_isDoor_91 : decode cL_isDoor 91 = .ok (.aload_n 0, 1) := by decide +kernel
theorem dL_isDoor_92 : decode cL_isDoor 92 = .ok (.iconst 2, 1) := by decide +kernel
theorem dL_isDoor_93 : decode cL_isDoor 93 = .ok (.invokevirtual 14, 3) := by decide +kernel
theorem dL_isDoor_96 : decode cL_isDoor 96 = .ok (.iload 5, 2) := by decide +kernel
theorem dL_isDoor_98 : decode cL_isDoor 98 = .ok (.if_icmp .ne 18, 3) := by decide +kernel
theorem dL_isDoor_101 : decode cL_isDoor 101 = .ok (.aload_n 0, 1) := by decide +kernel
theorem dL_isDoor_102 : decode cL_isDoor 102 = .ok (.bipush 7, 2) := by decide +kernel
theorem dL_isDoor_104 : decode cL_isDoor 104 = .ok (.invokevirtual 14, 3) := by decide +kernel
theorem dL_isDoor_107 : decode cL_isDoor 107 = .ok (.iload 6, 2) := by decide +kernel
theorem dL_isDoor_109 : decode cL_isDoor 109 = .ok (.if_icmp .ne 7, 3) := by decide +kernel
theorem dL_isDoor_112 : decode cL_isDoor 112 = .ok (.iconst 1, 1) := by decide +kernel
theorem dL_isDoor_113 : decode cL_isDoor 113 = .ok (.goto 4, 3) := by decide +kernel
theorem dL_isDoor_116 : decode cL_isDoor 116 = .ok (.iconst 0, 1) := by decide +kernel
theorem dL_isDoor_117 : decode cL_isDoor 117 = .ok (.ireturn, 1) := by decide +kernel
theorem dL_isDoor_118 : decode cL_isDoor 118 = .ok (.iload 7, 2) := by decide +kernel
theorem dL_isDoor_120 : decode cL_isDoor 120 = .ok (.iload 5, 2) := by decide +kernel
theorem dL_isDoor_122 : decode cL_isDoor 122 = .ok (.if_icmp .ne 80, 3) := by decide +kernel
theorem dL_isDoor_125 : decode cL_isDoor 125 = .ok (.aload_n 0, 1) := by decide +kernel
theorem dL_isDoor_126 : decode cL_isDoor 126 = .ok (.iload 5, 2) := by decide +kernel
theorem dL_isDoor_128 : decode cL_isDoor 128 = .ok (.iconst 0, 1) := by decide +kernel
theorem dL_isDoor_129 : decode cL_isDoor 129 = .ok (.invokevirtual 20, 3) := by decide +kernel
theorem dL_isDoor_132 : decode cL_isDoor 132 = .ok (.iload_n 1, 1) := by decide +kernel
theorem dL_isDoor_133 : decode cL_isDoor 133 = .ok (.if_icmp .ne 69, 3) := by decide +kernel
theorem dL_isDoor_136 : decode cL_isDoor 136 = .ok (.aload_n 0, 1) := by decide +kernel
theorem dL_isDoor_137 : decode cL_isDoor 137 = .ok (.iload 5, 2) := by decide +kernel
theorem dL_isDoor_139 : decode cL_isDoor 139 = .ok (.iconst 1, 1) := by decide +kernel
theorem dL_isDoor_140 : decode cL_isDoor 140 = .ok (.invokevirtual 20, 3) := by decide +kernel
theorem dL_isDoor_143 : decode cL_isDoor 143 = .ok (.iload_n 2, 1) := by decide +kernel
theorem dL_isDoor_144 : decode cL_isDoor 144 = .ok (.if_icmp .ne 58, 3) := by decide +kernel
theorem dL_isDoor_147 : decode cL_isDoor 147 = .ok (.aload_n 0, 1) := by decide +kernel
theorem dL_isDoor_148 : decode cL_isDoor 148 = .ok (.iload 5, 2) := by decide +kernel
theorem dL_isDoor_150 : decode cL_isDoor 150 = .ok (.iconst 2, 1) := by decide +kernel
theorem dL_isDoor_151 : decode cL_isDoor 151 = .ok (.invokevirtual 20, 3) := by decide +kernel
theorem dL_isDoor_154 : decode cL_isDoor 154 = .ok (.iload_n 3, 1) := by decide +kernel
theorem dL_isDoor_155 : decode cL_isDoor 155 = .ok (.if_icmp .ne 47, 3) := by decide +kernel
theorem dL_isDoor_158 : decode cL_isDoor 158 = .ok (.aload_n 0, 1) := by decide +kernel
theorem dL_isDoor_159 : decode cL_isDoor 159 = .ok (.iload 5, 2) := by decide +kernel
theorem dL_isDoor_161 : decode cL_isDoor 161 = .ok (.iconst 3, 1) := by decide +kernel
theorem dL_isDoor_162 : decode cL_isDoor 162 = .ok (.invokevirtual 20, 3) := by decide +kernel
theorem dL_isDoor_165 : decode cL_isDoor 165 = .ok (.iload 4, 2) := by decide +kernel
theorem dL_isDoor_167 : decode cL_isDoor 167 = .ok (.if_icmp .ne 35, 3) := by decide +kernel
theorem dL_isDoor_170 : decode cL_isDoor 170 = .ok (.aload_n 0, 1) := by decide +kernel
theorem dL_isDoor_171 : decode cL_isDoor 171 = .ok (.iload 5, 2) := by decide +kernel
theorem dL_isDoor_173 : decode cL_isDoor 173 = .ok (.iconst 5, 1) := by decide +kernel
theorem dL_isDoor_174 : decode cL_isDoor 174 = .ok (.invokevirtual 20, 3) := by decide +kernel
theorem dL_isDoor_177 : decode cL_isDoor 177 = .ok (.ifCond .ne 25, 3) := by decide +kernel
theorem dL_isDoor_180 : decode cL_isDoor 180 = .ok (.aload_n 0, 1) := by decide +kernel
theorem dL_isDoor_181 : decode cL_isDoor 181 = .ok (.bipush 7, 2) := by decide +kernel
theorem dL_isDoor_183 : decode cL_isDoor 183 = .ok (.invokevirtual 14, 3) := by decide +kernel
theorem dL_isDoor_186 : decode cL_isDoor 186 = .ok (.iload 6, 2) := by decide +kernel
theorem dL_isDoor_188 : decode cL_isDoor 188 = .ok (.iload_n 3, 1) := by decide +kernel
theorem dL_isDoor_189 : decode cL_isDoor 189 = .ok (.iload 4, 2) := by decide +kernel
theorem dL_isDoor_191 : decode cL_isDoor 191 = .ok (.invokestatic 30, 3) := by decide +kernel
theorem dL_isDoor_194 : decode cL_isDoor 194 = .ok (.isub, 1) := by decide +kernel
theorem dL_isDoor_195 : decode cL_isDoor 195 = .ok (.if_icmp .ne 7, 3) := by decide +kernel
theorem dL_isDoor_198 : decode cL_isDoor 198 = .ok (.iconst 1, 1) := by decide +kernel
theorem dL_isDoor_199 : decode cL_isDoor 199 = .ok (.goto 4, 3) := by decide +kernel
theorem dL_isDoor_202 : decode cL_isDoor 202 = .ok (.iconst 0, 1) := by decide +kernel
theorem dL_isDoor_203 : decode cL_isDoor 203 = .ok (.ireturn, 1) := by decide +kernel
theorem dL_isCut_0 : decode cL_isCut 0 = .ok (.iload_n 1, 1) := by decide +kernel
theorem dL_isCut_1 : decode cL_isCut 1 = .ok (.aload_n 0, 1) := by decide +kernel
theorem dL_isCut_2 : decode cL_isCut 2 = .ok (.iconst 2, 1) := by decide +kernel
theorem dL_isCut_3 : decode cL_isCut 3 = .ok (.invokevirtual 14, 3) := by decide +kernel
theorem dL_isCut_6 : decode cL_isCut 6 = .ok (.if_icmp .lt 20, 3) := by decide +kernel
theorem dL_isCut_9 : decode cL_isCut 9 = .ok (.aload_n 0, 1) := by decide +kernel
theorem dL_isCut_10 : decode cL_isCut 10 = .ok (.iload_n 1, 1) := by decide +kernel
theorem dL_isCut_11 : decode cL_isCut 11 = .ok (.iload_n 2, 1) := by decide +kernel
theorem dL_isCut_12 : decode cL_isCut 12 = .ok (.iload_n 3, 1) := by decide +kernel
theorem dL_isCut_13 : decode cL_isCut 13 = .ok (.invokevirtual 44, 3) := by decide +kernel
theorem dL_isCut_16 : decode cL_isCut 16 = .ok (.iconst (-1), 1) := by decide +kernel
theorem dL_isCut_17 : decode cL_isCut 17 = .ok (.if_icmp .ne 7, 3) := by decide +kernel
theorem dL_isCut_20 : decode cL_isCut 20 = .ok (.iconst 1, 1) := by decide +kernel
theorem dL_isCut_21 : decode cL_isCut 21 = .ok (.goto 4, 3) := by decide +kernel
theorem dL_isCut_24 : decode cL_isCut 24 = .ok (.iconst 0, 1) := by decide +kernel
theorem dL_isCut_25 : decode cL_isCut 25 = .ok (.ireturn, 1) := by decide +kernel
theorem dL_isCut_26 : decode cL_isCut 26 = .ok (.aload_n 0, 1) := by decide +kernel
theorem dL_isCut_27 : decode cL_isCut 27 = .ok (.iload_n 1, 1) := by decide +kernel
theorem dL_isCut_28 : decode cL_isCut 28 = .ok (.iconst 4, 1) := by decide +kernel
theorem dL_isCut_29 : decode cL_isCut 29 = .ok (.invokevirtual 20, 3) := by decide +kernel
theorem dL_isCut_32 : decode cL_isCut 32 = .ok (.istore 4, 2) := by decide +kernel
theorem dL_isCut_34 : decode cL_isCut 34 = .ok (.aload_n 0, 1) := by decide +kernel
theorem dL_isCut_35 : decode cL_isCut 35 = .ok (.bipush 7, 2) := by decide +kernel
theorem dL_isCut_37 : decode cL_isCut 37 = .ok (.invokevirtual 14, 3) := by decide +kernel
theorem dL_isCut_40 : decode cL_isCut 40 = .ok (.istore 5, 2) := by decide +kernel
theorem dL_isCut_42 : decode cL_isCut 42 = .ok (.aload_n 0, 1) := by decide +kernel
theorem dL_isCut_43 : decode cL_isCut 43 = .ok (.bipush 8, 2) := by decide +kernel
theorem dL_isCut_45 : decode cL_isCut 45 = .ok (.invokevirtual 14, 3) := by decide +kernel
theorem dL_isCut_48 : decode cL_isCut 48 = .ok (.istore 6, 2) := by decide +kernel
theorem dL_isCut_50 : decode cL_isCut 50 = .ok (.aload_n 0, 1) := by decide +kernel
theorem dL_isCut_51 : decode cL_isCut 51 = .ok (.iload_n 1, 1) := by decide +kernel
theorem dL_isCut_52 : decode cL_isCut 52 = .ok (.iconst 5, 1) := by decide +kernel
theorem dL_isCut_53 : decode cL_isCut 53 = .ok (.invokevirtual 20, 3) := by decide +kernel
theorem dL_isCut_56 : decode cL_isCut 56 = .ok (.istore 7, 2) := by decide +kernel
theorem dL_isCut_58 : decode cL_isCut 58 = .ok (.aload_n 0, 1) := by decide +kernel
theorem dL_isCut_59 : decode cL_isCut 59 = .ok (.iload_n 1, 1) := by decide +kernel
theorem dL_isCut_60 : decode cL_isCut 60 = .ok (.iconst 2, 1) := by decide +kernel
theorem dL_isCut_61 : decode cL_isCut 61 = .ok (.invokevirtual 20, 3) := by decide +kernel
theorem dL_isCut_64 : decode cL_isCut 64 = .ok (.istore 8, 2) := by decide +kernel
theorem dL_isCut_66 : decode cL_isCut 66 = .ok (.iload 5, 2) := by decide +kernel
theorem dL_isCut_68 : decode cL_isCut 68 = .ok (.iload 4, 2) := by decide +kernel
theorem dL_isCut_70 : decode cL_isCut 70 = .ok (.iadd, 1) := by decide +kernel
theorem dL_isCut_71 : decode cL_isCut 71 = .ok (.aload_n 0, 1) := by decide +kernel
theorem dL_isCut_72 : decode cL_isCut 72 = .ok (.iload 4, 2) := by decide +kernel
theorem dL_isCut_74 : decode cL_isCut 74 = .ok (.invokestatic 48, 3) := by decide +kernel
theorem dL_isCut_77 : decode cL_isCut 77 = .ok (.isub, 1) := by decide +kernel
theorem dL_isCut_78 : decode cL_isCut 78 = .ok (.iload_n 2, 1) := by decide +kernel
theorem dL_isCut_79 : decode cL_isCut 79 = .ok (.iload_n 3, 1) := by decide +kernel
theorem dL_isCut_80 : decode cL_isCut 80 = .ok (.invokestatic 30, 3) := by decide +kernel
theorem dL_isCut_83 : decode cL_isCut 83 = .ok (.isub, 1) := by decide +kernel
theorem dL_isCut_84 : decode cL_isCut 84 = .ok (.istore 9, 2) := by decide +kernel
theorem dL_isCut_86 : decode cL_isCut 86 = .ok (.aload_n 0, 1) := by decide +kernel
theorem dL_isCut_87 : decode cL_isCut 87 = .ok (.iload 4, 2) := by decide +kernel
theorem dL_isCut_89 : decode cL_isCut 89 = .ok (.invokestatic 48, 3) := by decide +kernel
theorem dL_isCut_92 : decode cL_isCut 92 = .ok (.istore 10, 2) := by decide +kernel
theorem dL_isCut_94 : decode cL_isCut 94 = .ok (.aload_n 0, 1) := by decide +kernel
theorem dL_isCut_95 : decode cL_isCut 95 = .ok (.iload_n 1, 1) := by decide +kernel
theorem dL_isCut_96 : decode cL_isCut 96 = .ok (.iload_n 2, 1) := by decide +kernel
theorem dL_isCut_97 : decode cL_isCut 97 = .ok (.iload_n 3, 1) := by decide +kernel
theorem dL_isCut_98 : decode cL_isCut 98 = .ok (.invokevirtual 44, 3) := by decide +kernel
theorem dL_isCut_101 : decode cL_isCut 101 = .ok (.istore 11, 2) := by decide +kernel
theorem dL_isCut_103 : decode cL_isCut 103 = .ok (.iload 9, 2) := by decide +kernel
theorem dL_isCut_105 : decode cL_isCut 105 = .ok (.ifCond .ge 60, 3) := by decide +kernel
theorem dL_isCut_108 : decode cL_isCut 108 = .ok (.iload 11, 2) := by decide +kernel
theorem dL_isCut_110 : decode cL_isCut 110 = .ok (.bipush (-5), 2) := by decide +kernel
theorem dL_isCut_112 : decode cL_isCut 112 = .ok (.if_icmp .ne 51, 3) := by decide +kernel
theorem dL_isCut_115 : decode cL_isCut 115 = .ok (.aload_n 0, 1) := by decide +kernel
theorem dL_isCut_116 : decode cL_isCut 116 = .ok (.bipush 7, 2) := by decide +kernel
theorem dL_isCut_118 : decode cL_isCut 118 = .ok (.invokevirtual 14, 3) := by decide +kernel
theorem dL_isCut_121 : decode cL_isCut 121 = .ok (.iload 5, 2) := by decide +kernel
theorem dL_isCut_123 : decode cL_isCut 123 = .ok (.if_icmp .ne 40, 3) := by decide +kernel
theorem dL_isCut_126 : decode cL_isCut 126 = .ok (.aload_n 0, 1) := by decide +kernel
theorem dL_isCut_127 : decode cL_isCut 127 = .ok (.bipush 8, 2) := by decide +kernel
theorem dL_isCut_129 : decode cL_isCut 129 = .ok (.invokevirtual 14, 3) := by decide +kernel
theorem dL_isCut_132 : decode cL_isCut 132 = .ok (.iload 6, 2) := by decide +kernel
theorem dL_isCut_134 : decode cL_isCut 134 = .ok (.if_icmp .ne 29, 3) := by decide +kernel
theorem dL_isCut_137 : decode cL_isCut 137 = .ok (.aload_n 0, 1) := by decide +kernel
theorem dL_isCut_138 : decode cL_isCut 138 = .ok (.iload_n 1, 1) := by decide +kernel
theorem dL_isCut_139 : decode cL_isCut 139 = .ok (.iconst 2, 1) := by decide +kernel
theorem dL_isCut_140 : decode cL_isCut 140 = .ok (.invokevirtual 20, 3) := by decide +kernel
theorem dL_isCut_143 : decode cL_isCut 143 = .ok (.iload 8, 2) := by decide +kernel
theorem dL_isCut_145 : decode cL_isCut 145 = .ok (.if_icmp .ne 18, 3) := by decide +kernel
theorem dL_isCut_148 : decode cL_isCut 148 = .ok (.aload_n 0, 1) := by decide +kernel
theorem dL_isCut_149 : decode cL_isCut 149 = .ok (.iload_n 1, 1) := by decide +kernel
theorem dL_isCut_150 : decode cL_isCut 150 = .ok (.iconst 5, 1) := by decide +kernel
theorem dL_isCut_151 : decode cL_isCut 151 = .ok (.invokevirtual 20, 3) := by decide +kernel
theorem dL_isCut_154 : decode cL_isCut 154 = .ok (.iload 7, 2) := by decide +kernel
theorem dL_isCut_156 : decode cL_isCut 156 = .ok (.if_icmp .ne 7, 3) := by decide +kernel
theorem dL_isCut_159 : decode cL_isCut 159 = .ok (.iconst 1, 1) := by decide +kernel
theorem dL_isCut_160 : decode cL_isCut 160 = .ok (.goto 4, 3) := by decide +kernel
theorem dL_isCut_163 : decode cL_isCut 163 = .ok (.iconst 0, 1) := by decide +kernel
theorem dL_isCut_164 : decode cL_isCut 164 = .ok (.ireturn, 1) := by decide +kernel
theorem dL_isCut_165 : decode cL_isCut 165 = .ok (.iload 11, 2) := by decide +kernel
theorem dL_isCut_167 : decode cL_isCut 167 = .ok (.iload 9, 2) := by decide +kernel
theorem dL_isCut_169 : decode cL_isCut 169 = .ok (.if_icmp .ne 65, 3) := by decide +kernel
theorem dL_isCut_172 : decode cL_isCut 172 = .ok (.aload_n 0, 1) := by decide +kernel
theorem dL_isCut_173 : decode cL_isCut 173 = .ok (.bipush 7, 2) := by decide +kernel
theorem dL_isCut_175 : decode cL_isCut 175 = .ok (.invokevirtual 14, 3) := by decide +kernel
theorem dL_isCut_178 : decode cL_isCut 178 = .ok (.iload 9, 2) := by decide +kernel
theorem dL_isCut_180 : decode cL_isCut 180 = .ok (.if_icmp .ne 54, 3) := by decide +kernel
theorem dL_isCut_183 : decode cL_isCut 183 = .ok (.aload_n 0, 1) := by decide +kernel
theorem dL_isCut_184 : decode cL_isCut 184 = .ok (.bipush 8, 2) := by decide +kernel
theorem dL_isCut_186 : decode cL_isCut 186 = .ok (.invokevirtual 14, 3) := by decide +kernel
theorem dL_isCut_189 : decode cL_isCut 189 = .ok (.iload 6, 2) := by decide +kernel
theorem dL_isCut_191 : decode cL_isCut 191 = .ok (.iload 10, 2) := by decide +kernel
theorem dL_isCut_193 : decode cL_isCut 193 = .ok (.iadd, 1) := by decide +kernel
theorem dL_isCut_194 : decode cL_isCut 194 = .ok (.if_icmp .ne 40, 3) := by decide +kernel
theorem dL_isCut_197 : decode cL_isCut 197 = .ok (.aload_n 0, 1) := by decide +kernel
theorem dL_isCut_198 : decode cL_isCut 198 = .ok (.iload_n 1, 1) := by decide +kernel
theorem dL_isCut_199 : decode cL_isCut 199 = .ok (.iconst 2, 1) := by decide +kernel
theorem dL_isCut_200 : decode cL_isCut 200 = .ok (.invokevirtual 20, 3) := by decide +kernel
theorem dL_isCut_203 : decode cL_isCut 203 = .ok (.iload_n 2, 1) := by decide +kernel
theorem dL_isCut_204 : decode cL_isCut 204 = .ok (.if_icmp .ne 30, 3) := by decide +kernel
theorem dL_isCut_207 : decode cL_isCut 207 = .ok (.aload_n 0, 1) := by decide +kernel
theorem dL_isCut_208 : decode cL_isCut 208 = .ok (.iload_n 1, 1) := by decide +kernel
theorem dL_isCut_209 : decode cL_isCut 209 = .ok (.iconst 3, 1) := by decide +kernel
theorem dL_isCut_210 : decode cL_isCut 210 = .ok (.invokevirtual 20, 3) := by decide +kernel
theorem dL_isCut_213 : decode cL_isCut 213 = .ok (.iload_n 3, 1) := by decide +kernel
theorem dL_isCut_214 : decode cL_isCut 214 = .ok (.if_icmp .ne 20, 3) := by decide +kernel
theorem dL_isCut_217 : decode cL_isCut 217 = .ok (.aload_n 0, 1) := by decide +kernel
theorem dL_isCut_218 : decode cL_isCut 218 = .ok (.iload_n 1, 1) := by decide +kernel
theorem dL_isCut_219 : decode cL_isCut 219 = .ok (.iconst 5, 1) := by decide +kernel
theorem dL_isCut_220 : decode cL_isCut 220 = .ok (.invokevirtual 20, 3) := by decide +kernel
theorem dL_isCut_223 : decode cL_isCut 223 = .ok (.iload 7, 2) := by decide +kernel
theorem dL_isCut_225 : decode cL_isCut 225 = .ok (.iconst 1, 1) := by decide +kernel
theorem dL_isCut_226 : decode cL_isCut 226 = .ok (.iadd, 1) := by decide +kernel
theorem dL_isCut_227 : decode cL_isCut 227 = .ok (.if_icmp .ne 7, 3) := by decide +kernel
theorem dL_isCut_230 : decode cL_isCut 230 = .ok (.iconst 1, 1) := by decide +kernel
theorem dL_isCut_231 : decode cL_isCut 231 = .ok (.goto 4, 3) := by decide +kernel
theorem dL_isCut_234 : decode cL_isCut 234 = .ok (.iconst 0, 1) := by decide +kernel
theorem dL_isCut_235 : decode cL_isCut 235 = .ok (.ireturn, 1) := by decide +kernel
theorem dL_isCutKey_0 : decode cL_isCutKey 0 = .ok (.aload_n 0, 1) := by decide +kernel
theorem dL_isCutKey_1 : decode cL_isCutKey 1 = .ok (.iconst 3, 1) := by decide +kernel
theorem dL_isCutKey_2 : decode cL_isCutKey 2 = .ok (.invokevirtual 14, 3) := by decide +kernel
theorem dL_isCutKey_5 : decode cL_isCutKey 5 = .ok (.istore_n 3, 1) := by decide +kernel
theorem dL_isCutKey_6 : decode cL_isCutKey 6 = .ok (.aload_n 0, 1) := by decide +kernel
theorem dL_isCutKey_7 : decode cL_isCutKey 7 = .ok (.bipush 7, 2) := by decide +kernel
theorem dL_isCutKey_9 : decode cL_isCutKey 9 = .ok (.invokevirtual 14, 3) := by decide +kernel
theorem dL_isCutKey_12 : decode cL_isCutKey 12 = .ok (.istore 4, 2) := by decide +kernel
theorem dL_isCutKey_14 : decode cL_isCutKey 14 = .ok (.aload_n 0, 1) := by decide +kernel
theorem dL_isCutKey_15 : decode cL_isCutKey 15 = .ok (.iconst 4, 1) := by decide +kernel
theorem dL_isCutKey_16 : decode cL_isCutKey 16 = .ok (.invokevirtual 14, 3) := by decide +kernel
theorem dL_isCutKey_19 : decode cL_isCutKey 19 = .ok (.istore 5, 2) := by decide +kernel
theorem dL_isCutKey_21 : decode cL_isCutKey 21 = .ok (.iload_n 1, 1) := by decide +kernel
theorem dL_isCutKey_22 : decode cL_isCutKey 22 = .ok (.iconst 0, 1) := by decide +kernel
theorem dL_isCutKey_23 : decode cL_isCutKey 23 = .ok (.invokestatic 8, 3) := by decide +kernel
theorem dL_isCutKey_26 : decode cL_isCutKey 26 = .ok (.iload_n 1, 1) := by decide +kernel
theorem dL_isCutKey_27 : decode cL_isCutKey 27 = .ok (.iconst 1, 1) := by decide +kernel
theorem dL_isCutKey_28 : decode cL_isCutKey 28 = .ok (.invokestatic 8, 3) := by decide +kernel
theorem dL_isCutKey_31 : decode cL_isCutKey 31 = .ok (.iadd, 1) := by decide +kernel
theorem dL_isCutKey_32 : decode cL_isCutKey 32 = .ok (.iload_n 1, 1) := by decide +kernel
theorem dL_isCutKey_33 : decode cL_isCutKey 33 = .ok (.iconst 2, 1) := by decide +kernel
theorem dL_isCutKey_34 : decode cL_isCutKey 34 = .ok (.invokestatic 8, 3) := by decide +kernel
theorem dL_isCutKey_37 : decode cL_isCutKey 37 = .ok (.iadd, 1) := by decide +kernel
theorem dL_isCutKey_38 : decode cL_isCutKey 38 = .ok (.iload_n 1, 1) := by decide +kernel
theorem dL_isCutKey_39 : decode cL_isCutKey 39 = .ok (.iconst 3, 1) := by decide +kernel
theorem dL_isCutKey_40 : decode cL_isCutKey 40 = .ok (.invokestatic 8, 3) := by decide +kernel
theorem dL_isCutKey_43 : decode cL_isCutKey 43 = .ok (.iadd, 1) := by decide +kernel
theorem dL_isCutKey_44 : decode cL_isCutKey 44 = .ok (.istore 6, 2) := by decide +kernel
theorem dL_isCutKey_46 : decode cL_isCutKey 46 = .ok (.aload_n 0, 1) := by decide +kernel
theorem dL_isCutKey_47 : decode cL_isCutKey 47 = .ok (.iload_n 1, 1) := by decide +kernel
theorem dL_isCutKey_48 : decode cL_isCutKey 48 = .ok (.iload_n 2, 1) := by decide +kernel
theorem dL_isCutKey_49 : decode cL_isCutKey 49 = .ok (.invokevirtual 52, 3) := by decide +kernel
theorem dL_isCutKey_52 : decode cL_isCutKey 52 = .ok (.istore 7, 2) := by decide +kernel
theorem dL_isCutKey_54 : decode cL_isCutKey 54 = .ok (.iload_n 3, 1) := by decide +kernel
theorem dL_isCutKey_55 : decode cL_isCutKey 55 = .ok (.bipush 16, 2) := by decide +kernel
theorem dL_isCutKey_57 : decode cL_isCutKey 57 = .ok (.if_icmp .eq 16, 3) := by decide +kernel
theorem dL_isCutKey_60 : decode cL_isCutKey 60 = .ok (.iload_n 1, 1) := by decide +kernel
theorem dL_isCutKey_61 : decode cL_isCutKey 61 = .ok (.aload_n 0, 1) := by decide +kernel
theorem dL_isCutKey_62 : decode cL_isCutKey 62 = .ok (.bipush 13, 2) := by decide +kernel
theorem dL_isCutKey_64 : decode cL_isCutKey 64 = .ok (.invokevirtual 14, 3) := by decide +kernel
theorem dL_isCutKey_67 : decode cL_isCutKey 67 = .ok (.invokestatic 55, 3) := by decide +kernel
theorem dL_isCutKey_70 : decode cL_isCutKey 70 = .ok (.ifCond .ne 46, 3) := by decide +kernel
theorem dL_isCutKey_73 : decode cL_isCutKey 73 = .ok (.iload 7, 2) := by decide +kernel
theorem dL_isCutKey_75 : decode cL_isCutKey 75 = .ok (.iload_n 3, 1) := by decide +kernel
theorem dL_isCutKey_76 : decode cL_isCutKey 76 = .ok (.bipush 16, 2) := by decide +kernel
theorem dL_isCutKey_78 : decode cL_isCutKey 78 = .ok (.if_icmp .ne 8, 3) := by decide +kernel
theorem dL_isCutKey_81 : decode cL_isCutKey 81 = .ok (.bipush (-4), 2) := by decide +kernel
theorem dL_isCutKey_83 : decode cL_isCutKey 83 = .ok (.goto 5, 3) := by decide +kernel
theorem dL_isCutKey_86 : decode cL_isCutKey 86 = .ok (.bipush (-5), 2) := by decide +kernel
theorem dL_isCutKey_88 : decode cL_isCutKey 88 = .ok (.if_icmp .ne 26, 3) := by decide +kernel
theorem dL_isCutKey_91 : decode cL_isCutKey 91 = .ok (.aload_n 0, 1) := by decide +kernel
theorem dL_isCutKey_92 : decode cL_isCutKey 92 = .ok (.iconst 3, 1) := by decide +kernel
theorem dL_isCutKey_93 : decode cL_isCutKey 93 = .ok (.invokevirtual 14, 3) := by decide +kernel
theorem dL_isCutKey_96 : decode cL_isCutKey 96 = .ok (.iload_n 3, 1) := by decide +kernel
theorem dL_isCutKey_97 : decode cL_isCutKey 97 = .ok (.if_icmp .ne 17, 3) := by decide +kernel
theorem dL_isCutKey_100 : decode cL_isCutKey 100 = .ok (.aload_n 0, 1) := by decide +kernel
theorem dL_isCutKey_101 : decode cL_isCutKey 101 = .ok (.iconst 4, 1) := by decide +kernel
theorem dL_isCutKey_102 : decode cL_isCutKey 102 = .ok (.invokevirtual 14, 3) := by decide +kernel
theorem dL_isCutKey_105 : decode cL_isCutKey 105 = .ok (.iload 5, 2) := by decide +kernel
theorem dL_isCutKey_107 : decode cL_isCutKey 107 = .ok (.if_icmp .ne 7, 3) := by decide +kernel
theorem dL_isCutKey_110 : decode cL_isCutKey 110 = .ok (.iconst 1, 1) := by decide +kernel
theorem dL_isCutKey_111 : decode cL_isCutKey 111 = .ok (.goto 4, 3) := by decide +kernel
theorem dL_isCutKey_114 : decode cL_isCutKey 114 = .ok (.iconst 0, 1) := by decide +kernel
theorem dL_isCutKey_115 : decode cL_isCutKey 115 = .ok (.ireturn, 1) := by decide +kernel
theorem dL_isCutKey_116 : decode cL_isCutKey 116 = .ok (.iload 7, 2) := by decide +kernel
theorem dL_isCutKey_118 : decode cL_isCutKey 118 = .ok (.iload_n 3, 1) := by decide +kernel
theorem dL_isCutKey_119 : decode cL_isCutKey 119 = .ok (.if_icmp .ne 76, 3) := by decide +kernel
theorem dL_isCutKey_122 : decode cL_isCutKey 122 = .ok (.aload_n 0, 1) := by decide +kernel
theorem dL_isCutKey_123 : decode cL_isCutKey 123 = .ok (.iload_n 3, 1) := by decide +kernel
theorem dL_isCutKey_124 : decode cL_isCutKey 124 = .ok (.iconst 0, 1) := by decide +kernel
theorem dL_isCutKey_125 : decode cL_isCutKey 125 = .ok (.invokevirtual 23, 3) := by decide +kernel
theorem dL_isCutKey_128 : decode cL_isCutKey 128 = .ok (.iload_n 1, 1) := by decide +kernel
theorem dL_isCutKey_129 : decode cL_isCutKey 129 = .ok (.if_icmp .ne 66, 3) := by decide +kernel
theorem dL_isCutKey_132 : decode cL_isCutKey 132 = .ok (.aload_n 0, 1) := by decide +kernel
theorem dL_isCutKey_133 : decode cL_isCutKey 133 = .ok (.iload_n 3, 1) := by decide +kernel
theorem dL_isCutKey_134 : decode cL_isCutKey 134 = .ok (.iconst 1, 1) := by decide +kernel
theorem dL_isCutKey_135 : decode cL_isCutKey 135 = .ok (.invokevirtual 23, 3) := by decide +kernel
theorem dL_isCutKey_138 : decode cL_isCutKey 138 = .ok (.aload_n 0, 1) := by decide +kernel
theorem dL_isCutKey_139 : decode cL_isCutKey 139 = .ok (.bipush 15, 2) := by decide +kernel
theorem dL_isCutKey_141 : decode cL_isCutKey 141 = .ok (.invokevirtual 14, 3) := by decide +kernel
theorem dL_isCutKey_144 : decode cL_isCutKey 144 = .ok (.iload 6, 2) := by decide +kernel
theorem dL_isCutKey_146 : decode cL_isCutKey 146 = .ok (.isub, 1) := by decide +kernel
theorem dL_isCutKey_147 : decode cL_isCutKey 147 = .ok (.if_icmp .ne 48, 3) := by decide +kernel
theorem dL_isCutKey_150 : decode cL_isCutKey 150 = .ok (.aload_n 0, 1) := by decide +kernel
theorem dL_isCutKey_151 : decode cL_isCutKey 151 = .ok (.iload_n 3, 1) := by decide +kernel
theorem dL_isCutKey_152 : decode cL_isCutKey 152 = .ok (.iconst 2, 1) := by decide +kernel
theorem dL_isCutKey_153 : decode cL_isCutKey 153 = .ok (.invokevirtual 23, 3) := by decide +kernel
theorem dL_isCutKey_156 : decode cL_isCutKey 156 = .ok (.iload_n 2, 1) := by decide +kernel
theorem dL_isCutKey_157 : decode cL_isCutKey 157 = .ok (.if_icmp .ne 38, 3) := by decide +kernel
theorem dL_isCutKey_160 : decode cL_isCutKey 160 = .ok (.aload_n 0, 1) := by decide +kernel
theorem dL_isCutKey_161 : decode cL_isCutKey 161 = .ok (.bipush 7, 2) := by decide +kernel
theorem dL_isCutKey_163 : decode cL_isCutKey 163 = .ok (.invokevirtual 14, 3) := by decide +kernel
theorem dL_isCutKey_166 : decode cL_isCutKey 166 = .ok (.iload 4, 2) := by decide +kernel
theorem dL_isCutKey_168 : decode cL_isCutKey 168 = .ok (.iload 6, 2) := by decide +kernel
theorem dL_isCutKey_170 : decode cL_isCutKey 170 = .ok (.iadd, 1) := by decide +kernel
theorem dL_isCutKey_171 : decode cL_isCutKey 171 = .ok (.if_icmp .ne 24, 3) := by decide +kernel
theorem dL_isCutKey_174 : decode cL_isCutKey 174 = .ok (.aload_n 0, 1) := by decide +kernel
theorem dL_isCutKey_175 : decode cL_isCutKey 175 = .ok (.iconst 4, 1) := by decide +kernel
theorem dL_isCutKey_176 : decode cL_isCutKey 176 = .ok (.invokevirtual 14, 3) := by decide +kernel
theorem dL_isCutKey_179 : decode cL_isCutKey 179 = .ok (.iload 5, 2) := by decide +kernel
theorem dL_isCutKey_181 : decode cL_isCutKey 181 = .ok (.aload_n 0, 1) := by decide +kernel
theorem dL_isCutKey_182 : decode cL_isCutKey 182 = .ok (.bipush 15, 2) := by decide +kernel
theorem dL_isCutKey_184 : decode cL_isCutKey 184 = .ok (.invokevirtual 14, 3) := by decide +kernel
theorem dL_isCutKey_187 : decode cL_isCutKey 187 = .ok (.iadd, 1) := by decide +kernel
theorem dL_isCutKey_188 : decode cL_isCutKey 188 = .ok (.if_icmp .ne 7, 3) := by decide +kernel
theorem dL_isCutKey_191 : decode cL_isCutKey 191 = .ok (.iconst 1, 1) := by decide +kernel
theorem dL_isCutKey_192 : decode cL_isCutKey 192 = .ok (.goto 4, 3) := by decide +kernel
theorem dL_isCutKey_195 : decode cL_isCutKey 195 = .ok (.iconst 0, 1) := by decide +kernel
theorem dL_isCutKey_196 : decode cL_isCutKey 196 = .ok (.ireturn, 1) := by decide +kernel
theorem dL_isMelted_0 : decode cL_isMelted 0 = .ok (.iload_n 1, 1) := by decide +kernel
theorem dL_isMelted_1 : decode cL_isMelted 1 = .ok (.aload_n 0, 1) := by decide +kernel
theorem dL_isMelted_2 : decode cL_isMelted 2 = .ok (.iconst 3, 1) := by decide +kernel
theorem dL_isMelted_3 : decode cL_isMelted 3 = .ok (.invokevirtual 14, 3) := by decide +kernel
theorem dL_isMelted_6 : decode cL_isMelted 6 = .ok (.if_icmp .lt 18, 3) := by decide +kernel
theorem dL_isMelted_9 : decode cL_isMelted 9 = .ok (.aload_n 0, 1) := by decide +kernel
theorem dL_isMelted_10 : decode cL_isMelted 10 = .ok (.iload_n 1, 1) := by decide +kernel
theorem dL_isMelted_11 : decode cL_isMelted 11 = .ok (.invokevirtual 58, 3) := by decide +kernel
theorem dL_isMelted_14 : decode cL_isMelted 14 = .ok (.iconst (-1), 1) := by decide +kernel
theorem dL_isMelted_15 : decode cL_isMelted 15 = .ok (.if_icmp .ne 7, 3) := by decide +kernel
theorem dL_isMelted_18 : decode cL_isMelted 18 = .ok (.iconst 1, 1) := by decide +kernel
theorem dL_isMelted_19 : decode cL_isMelted 19 = .ok (.goto 4, 3) := by decide +kernel
theorem dL_isMelted_22 : decode cL_isMelted 22 = .ok (.iconst 0, 1) := by decide +kernel
theorem dL_isMelted_23 : decode cL_isMelted 23 = .ok (.ireturn, 1) := by decide +kernel
theorem dL_isMelted_24 : decode cL_isMelted 24 = .ok (.aload_n 0, 1) := by decide +kernel
theorem dL_isMelted_25 : decode cL_isMelted 25 = .ok (.iload_n 1, 1) := by decide +kernel
theorem dL_isMelted_26 : decode cL_isMelted 26 = .ok (.iconst 2, 1) := by decide +kernel
theorem dL_isMelted_27 : decode cL_isMelted 27 = .ok (.invokevirtual 23, 3) := by decide +kernel
theorem dL_isMelted_30 : decode cL_isMelted 30 = .ok (.bipush 9, 2) := by decide +kernel
theorem dL_isMelted_32 : decode cL_isMelted 32 = .ok (.if_icmp .eq 7, 3) := by decide +kernel
theorem dL_isMelted_35 : decode cL_isMelted 35 = .ok (.iconst 1, 1) := by decide +kernel
theorem dL_isMelted_36 : decode cL_isMelted 36 = .ok (.goto 4, 3) := by decide +kernel
theorem dL_isMelted_39 : decode cL_isMelted 39 = .ok (.iconst 0, 1) := by decide +kernel
theorem dL_isMelted_40 : decode cL_isMelted 40 = .ok (.istore_n 2, 1) := by decide +kernel
theorem dL_isMelted_41 : decode cL_isMelted 41 = .ok (.aload_n 0, 1) := by decide +kernel
theorem dL_isMelted_42 : decode cL_isMelted 42 = .ok (.bipush 7, 2) := by decide +kernel
theorem dL_isMelted_44 : decode cL_isMelted 44 = .ok (.invokevirtual 14, 3) := by decide +kernel
theorem dL_isMelted_47 : decode cL_isMelted 47 = .ok (.istore_n 3, 1) := by decide +kernel
theorem dL_isMelted_48 : decode cL_isMelted 48 = .ok (.aload_n 0, 1) := by decide +kernel
theorem dL_isMelted_49 : decode cL_isMelted 49 = .ok (.bipush 8, 2) := by decide +kernel
theorem dL_isMelted_51 : decode cL_isMelted 51 = .ok (.invokevirtual 14, 3) := by decide +kernel
theorem dL_isMelted_54 : decode cL_isMelted 54 = .ok (.istore 4, 2) := by decide +kernel
theorem dL_isMelted_56 : decode cL_isMelted 56 = .ok (.aload_n 0, 1) := by decide +kernel
theorem dL_isMelted_57 : decode cL_isMelted 57 = .ok (.iload_n 1, 1) := by decide +kernel
theorem dL_isMelted_58 : decode cL_isMelted 58 = .ok (.iconst 1, 1) := by decide +kernel
theorem dL_isMelted_59 : decode cL_isMelted 59 = .ok (.invokevirtual 23, 3) := by decide +kernel
theorem dL_isMelted_62 : decode cL_isMelted 62 = .ok (.istore 5, 2) := by decide +kernel
theorem dL_isMelted_64 : decode cL_isMelted 64 = .ok (.aload_n 0, 1) := by decide +kernel
theorem dL_isMelted_65 : decode cL_isMelted 65 = .ok (.iload 5, 2) := by decide +kernel
theorem dL_isMelted_67 : decode cL_isMelted 67 = .ok (.invokestatic 48, 3) := by decide +kernel
theorem dL_isMelted_70 : decode cL_isMelted 70 = .ok (.istore 6, 2) := by decide +kernel
theorem dL_isMelted_72 : decode cL_isMelted 72 = .ok (.aload_n 0, 1) := by decide +kernel
theorem dL_isMelted_73 : decode cL_isMelted 73 = .ok (.iload_n 1, 1) := by decide +kernel
theorem dL_isMelted_74 : decode cL_isMelted 74 = .ok (.invokevirtual 58, 3) := by decide +kernel
theorem dL_isMelted_77 : decode cL_isMelted 77 = .ok (.istore 7, 2) := by decide +kernel
theorem dL_isMelted_79 : decode cL_isMelted 79 = .ok (.iload_n 2, 1) := by decide +kernel
theorem dL_isMelted_80 : decode cL_isMelted 80 = .ok (.ifCond .eq 57, 3) := by decide +kernel
theorem dL_isMelted_83 : decode cL_isMelted 83 = .ok (.iload 7, 2) := by decide +kernel
theorem dL_isMelted_85 : decode cL_isMelted 85 = .ok (.iload_n 3, 1) := by decide +kernel
theorem dL_isMelted_86 : decode cL_isMelted 86 = .ok (.iload 5, 2) := by decide +kernel
theorem dL_isMelted_88 : decode cL_isMelted 88 = .ok (.iadd, 1) := by decide +kernel
theorem dL_isMelted_89 : decode cL_isMelted 89 = .ok (.iload 6, 2) := by decide +kernel
theorem dL_isMelted_91 : decode cL_isMelted 91 = .ok (.isub, 1) := by decide +kernel
theorem dL_isMelted_92 : decode cL_isMelted 92 = .ok (.if_icmp .ne 41, 3) := by decide +kernel
theorem dL_isMelted_95 : decode cL_isMelted 95 = .ok (.aload_n 0, 1) := by decide +kernel
theorem dL_isMelted_96 : decode cL_isMelted 96 = .ok (.bipush 8, 2) := by decide +kernel
theorem dL_isMelted_98 : decode cL_isMelted 98 = .ok (.invokevirtual 14, 3) := by decide +kernel
theorem dL_isMelted_101 : decode cL_isMelted 101 = .ok (.iload 4, 2) := by decide +kernel
theorem dL_isMelted_103 : decode cL_isMelted 103 = .ok (.iload 6, 2) := by decide +kernel
theorem dL_isMelted_105 : decode cL_isMelted 105 = .ok (.iadd, 1) := by decide +kernel
theorem dL_isMelted_106 : decode cL_isMelted 106 = .ok (.if_icmp .ne 27, 3) := by decide +kernel
theorem dL_isMelted_109 : decode cL_isMelted 109 = .ok (.aload_n 0, 1) := by decide +kernel
theorem dL_isMelted_110 : decode cL_isMelted 110 = .ok (.iload_n 1, 1) := by decide +kernel
theorem dL_isMelted_111 : decode cL_isMelted 111 = .ok (.iconst 2, 1) := by decide +kernel
theorem dL_isMelted_112 : decode cL_isMelted 112 = .ok (.invokevirtual 23, 3) := by decide +kernel
theorem dL_isMelted_115 : decode cL_isMelted 115 = .ok (.bipush 9, 2) := by decide +kernel
theorem dL_isMelted_117 : decode cL_isMelted 117 = .ok (.if_icmp .ne 16, 3) := by decide +kernel
theorem dL_isMelted_120 : decode cL_isMelted 120 = .ok (.aload_n 0, 1) := by decide +kernel
theorem dL_isMelted_121 : decode cL_isMelted 121 = .ok (.iload_n 1, 1) := by decide +kernel
theorem dL_isMelted_122 : decode cL_isMelted 122 = .ok (.iconst 3, 1) := by decide +kernel
theorem dL_isMelted_123 : decode cL_isMelted 123 = .ok (.invokevirtual 23, 3) := by decide +kernel
theorem dL_isMelted_126 : decode cL_isMelted 126 = .ok (.ifCond .ne 7, 3) := by decide +kernel
theorem dL_isMelted_129 : decode cL_isMelted 129 = .ok (.iconst 1, 1) := by decide +kernel
theorem dL_isMelted_130 : decode cL_isMelted 130 = .ok (.goto 29, 3) := by decide +kernel
theorem dL_isMelted_133 : decode cL_isMelted 133 = .ok (.iconst 0, 1) := by decide +kernel
theorem dL_isMelted_134 : decode cL_isMelted 134 = .ok (.goto 25, 3) := by decide +kernel
theorem dL_isMelted_137 : decode cL_isMelted 137 = .ok (.iload 7, 2) := by decide +kernel
theorem dL_isMelted_139 : decode cL_isMelted 139 = .ok (.bipush (-5), 2) := by decide +kernel
theorem dL_isMelted_141 : decode cL_isMelted 141 = .ok (.if_icmp .ne 17, 3) := by decide +kernel
theorem dL_isMelted_144 : decode cL_isMelted 144 = .ok (.aload_n 0, 1) := by decide +kernel
theorem dL_isMelted_145 : decode cL_isMelted 145 = .ok (.bipush 7, 2) := by decide +kernel
theorem dL_isMelted_147 : decode cL_isMelted 147 = .ok (.invokevirtual 14, 3) := by decide +kernel
theorem dL_isMelted_150 : decode cL_isMelted 150 = .ok (.iload_n 3, 1) := by decide +kernel
theorem dL_isMelted_151 : decode cL_isMelted 151 = .ok (.if_icmp .ne 7, 3) := by decide +kernel
theorem dL_isMelted_154 : decode cL_isMelted 154 = .ok (.iconst 1, 1) := by decide +kernel
theorem dL_isMelted_155 : decode cL_isMelted 155 = .ok (.goto 4, 3) := by decide +kernel
theorem dL_isMelted_158 : decode cL_isMelted 158 = .ok (.iconst 0, 1) := by decide +kernel
theorem dL_isMelted_159 : decode cL_isMelted 159 = .ok (.ireturn, 1) := by decide +kernel
theorem dL_isTaken_0 : decode cL_isTaken 0 = .ok (.aload_n 0, 1) := by decide +kernel
theorem dL_isTaken_1 : decode cL_isTaken 1 = .ok (.iconst 1, 1) := by decide +kernel
theorem dL_isTaken_2 : decode cL_isTaken 2 = .ok (.invokevirtual 14, 3) := by decide +kernel
theorem dL_isTaken_5 : decode cL_isTaken 5 = .ok (.istore_n 2, 1) := by decide +kernel
theorem dL_isTaken_6 : decode cL_isTaken 6 = .ok (.iload_n 1, 1) := by decide +kernel
theorem dL_isTaken_7 : decode cL_isTaken 7 = .ok (.aload_n 0, 1) := by decide +kernel
theorem dL_isTaken_8 : decode cL_isTaken 8 = .ok (.iconst 3, 1) := by decide +kernel
theorem dL_isTaken_9 : decode cL_isTaken 9 = .ok (.invokevirtual 14, 3) := by decide +kernel
theorem dL_isTaken_12 : decode cL_isTaken 12 = .ok (.if_icmp .ge 21, 3) := by decide +kernel
theorem dL_isTaken_15 : decode cL_isTaken 15 = .ok (.aload_n 0, 1) := by decide +kernel
theorem dL_isTaken_16 : decode cL_isTaken 16 = .ok (.iload_n 1, 1) := by decide +kernel
theorem dL_isTaken_17 : decode cL_isTaken 17 = .ok (.iconst 2, 1) := by decide +kernel
theorem dL_isTaken_18 : decode cL_isTaken 18 = .ok (.invokevirtual 23, 3) := by decide +kernel
theorem dL_isTaken_21 : decode cL_isTaken 21 = .ok (.aload_n 0, 1) := by decide +kernel
theorem dL_isTaken_22 : decode cL_isTaken 22 = .ok (.iconst 0, 1) := by decide +kernel
theorem dL_isTaken_23 : decode cL_isTaken 23 = .ok (.invokevirtual 14, 3) := by decide +kernel
theorem dL_isTaken_26 : decode cL_isTaken 26 = .ok (.if_icmp .ne 7, 3) := by decide +kernel
theorem dL_isTaken_29 : decode cL_isTaken 29 = .ok (.iconst 1, 1) := by decide +kernel
theorem dL_isTaken_30 : decode cL_isTaken 30 = .ok (.goto 4, 3) := by decide +kernel
theorem dL_isTaken_33 : decode cL_isTaken 33 = .ok (.iconst 0, 1) := by decide +kernel
theorem dL_isTaken_34 : decode cL_isTaken 34 = .ok (.istore_n 3, 1) := by decide +kernel
theorem dL_isTaken_35 : decode cL_isTaken 35 = .ok (.aload_n 0, 1) := by decide +kernel
theorem dL_isTaken_36 : decode cL_isTaken 36 = .ok (.iload_n 1, 1) := by decide +kernel
theorem dL_isTaken_37 : decode cL_isTaken 37 = .ok (.invokevirtual 61, 3) := by decide +kernel
theorem dL_isTaken_40 : decode cL_isTaken 40 = .ok (.istore 4, 2) := by decide +kernel
theorem dL_isTaken_42 : decode cL_isTaken 42 = .ok (.iload_n 3, 1) := by decide +kernel
theorem dL_isTaken_43 : decode cL_isTaken 43 = .ok (.ifCond .eq 32, 3) := by decide +kernel
theorem dL_isTaken_46 : decode cL_isTaken 46 = .ok (.iload 4, 2) := by decide +kernel
theorem dL_isTaken_48 : decode cL_isTaken 48 = .ok (.iload_n 2, 1) := by decide +kernel
theorem dL_isTaken_49 : decode cL_isTaken 49 = .ok (.iconst 1, 1) := by decide +kernel
theorem dL_isTaken_50 : decode cL_isTaken 50 = .ok (.iload_n 1, 1) := by decide +kernel
theorem dL_isTaken_51 : decode cL_isTaken 51 = .ok (.ishl, 1) := by decide +kernel
theorem dL_isTaken_52 : decode cL_isTaken 52 = .ok (.ior, 1) := by decide +kernel
theorem dL_isTaken_53 : decode cL_isTaken 53 = .ok (.if_icmp .ne 18, 3) := by decide +kernel
theorem dL_isTaken_56 : decode cL_isTaken 56 = .ok (.aload_n 0, 1) := by decide +kernel
theorem dL_isTaken_57 : decode cL_isTaken 57 = .ok (.iload_n 1, 1) := by decide +kernel
theorem dL_isTaken_58 : decode cL_isTaken 58 = .ok (.iconst 2, 1) := by decide +kernel
theorem dL_isTaken_59 : decode cL_isTaken 59 = .ok (.invokevirtual 23, 3) := by decide +kernel
theorem dL_isTaken_62 : decode cL_isTaken 62 = .ok (.bipush 8, 2) := by decide +kernel
theorem dL_isTaken_64 : decode cL_isTaken 64 = .ok (.if_icmp .ne 7, 3) := by decide +kernel
theorem dL_isTaken_67 : decode cL_isTaken 67 = .ok (.iconst 1, 1) := by decide +kernel
theorem dL_isTaken_68 : decode cL_isTaken 68 = .ok (.goto 41, 3) := by decide +kernel
theorem dL_isTaken_71 : decode cL_isTaken 71 = .ok (.iconst 0, 1) := by decide +kernel
theorem dL_isTaken_72 : decode cL_isTaken 72 = .ok (.goto 37, 3) := by decide +kernel
theorem dL_isTaken_75 : decode cL_isTaken 75 = .ok (.iload 4, 2) := by decide +kernel
theorem dL_isTaken_77 : decode cL_isTaken 77 = .ok (.iload_n 1, 1) := by decide +kernel
theorem dL_isTaken_78 : decode cL_isTaken 78 = .ok (.aload_n 0, 1) := by decide +kernel
theorem dL_isTaken_79 : decode cL_isTaken 79 = .ok (.iconst 3, 1) := by decide +kernel
theorem dL_isTaken_80 : decode cL_isTaken 80 = .ok (.invokevirtual 14, 3) := by decide +kernel
theorem dL_isTaken_83 : decode cL_isTaken 83 = .ok (.if_icmp .ge 8, 3) := by decide +kernel
theorem dL_isTaken_86 : decode cL_isTaken 86 = .ok (.bipush (-5), 2) := by decide +kernel
theorem dL_isTaken_88 : decode cL_isTaken 88 = .ok (.goto 4, 3) := by decide +kernel
theorem dL_isTaken_91 : decode cL_isTaken 91 = .ok (.iconst (-1), 1) := by decide +kernel
theorem dL_isTaken_92 : decode cL_isTaken 92 = .ok (.if_icmp .ne 16, 3) := by decide +kernel
theorem dL_isTaken_95 : decode cL_isTaken 95 = .ok (.aload_n 0, 1) := by decide +kernel
theorem dL_isTaken_96 : decode cL_isTaken 96 = .ok (.iconst 1, 1) := by decide +kernel
theorem dL_isTaken_97 : decode cL_isTaken 97 = .ok (.invokevirtual 14, 3) := by decide +kernel
theorem dL_isTaken_100 : decode cL_isTaken 100 = .ok (.iload_n 2, 1) := by decide +kernel
theorem dL_isTaken_101 : decode cL_isTaken 101 = .ok (.if_icmp .ne 7, 3) := by decide +kernel
theorem dL_isTaken_104 : decode cL_isTaken 104 = .ok (.iconst 1, 1) := by decide +kernel
theorem dL_isTaken_105 : decode cL_isTaken 105 = .ok (.goto 4, 3) := by decide +kernel
theorem dL_isTaken_108 : decode cL_isTaken 108 = .ok (.iconst 0, 1) := by decide +kernel
theorem dL_isTaken_109 : decode cL_isTaken 109 = .ok (.ireturn, 1) := by decide +kernel
theorem dL_isPut_0 : decode cL_isPut 0 = .ok (.aload_n 0, 1) := by decide +kernel
theorem dL_isPut_1 : decode cL_isPut 1 = .ok (.iconst 1, 1) := by decide +kernel
theorem dL_isPut_2 : decode cL_isPut 2 = .ok (.invokevirtual 14, 3) := by decide +kernel
theorem dL_isPut_5 : decode cL_isPut 5 = .ok (.istore_n 2, 1) := by decide +kernel
theorem dL_isPut_6 : decode cL_isPut 6 = .ok (.iload_n 1, 1) := by decide +kernel
theorem dL_isPut_7 : decode cL_isPut 7 = .ok (.aload_n 0, 1) := by decide +kernel
theorem dL_isPut_8 : decode cL_isPut 8 = .ok (.iconst 3, 1) := by decide +kernel
theorem dL_isPut_9 : decode cL_isPut 9 = .ok (.invokevirtual 14, 3) := by decide +kernel
theorem dL_isPut_12 : decode cL_isPut 12 = .ok (.if_icmp .ge 15, 3) := by decide +kernel
theorem dL_isPut_15 : decode cL_isPut 15 = .ok (.iload_n 2, 1) := by decide +kernel
theorem dL_isPut_16 : decode cL_isPut 16 = .ok (.iload_n 1, 1) := by decide +kernel
theorem dL_isPut_17 : decode cL_isPut 17 = .ok (.invokestatic 36, 3) := by decide +kernel
theorem dL_isPut_20 : decode cL_isPut 20 = .ok (.ifCond .eq 7, 3) := by decide +kernel
theorem dL_isPut_23 : decode cL_isPut 23 = .ok (.iconst 1, 1) := by decide +kernel
theorem dL_isPut_24 : decode cL_isPut 24 = .ok (.goto 4, 3) := by decide +kernel
theorem dL_isPut_27 : decode cL_isPut 27 = .ok (.iconst 0, 1) := by decide +kernel
theorem dL_isPut_28 : decode cL_isPut 28 = .ok (.istore_n 3, 1) := by decide +kernel
theorem dL_isPut_29 : decode cL_isPut 29 = .ok (.aload_n 0, 1) := by decide +kernel
theorem dL_isPut_30 : decode cL_isPut 30 = .ok (.iload_n 1, 1) := by decide +kernel
theorem dL_isPut_31 : decode cL_isPut 31 = .ok (.invokevirtual 64, 3) := by decide +kernel
theorem dL_isPut_34 : decode cL_isPut 34 = .ok (.istore 4, 2) := by decide +kernel
theorem dL_isPut_36 : decode cL_isPut 36 = .ok (.iload_n 3, 1) := by decide +kernel
theorem dL_isPut_37 : decode cL_isPut 37 = .ok (.ifCond .eq 37, 3) := by decide +kernel
theorem dL_isPut_40 : decode cL_isPut 40 = .ok (.iload 4, 2) := by decide +kernel
theorem dL_isPut_42 : decode cL_isPut 42 = .ok (.iload_n 2, 1) := by decide +kernel
theorem dL_isPut_43 : decode cL_isPut 43 = .ok (.iconst 1, 1) := by decide +kernel
theorem dL_isPut_44 : decode cL_isPut 44 = .ok (.iload_n 1, 1) := by decide +kernel
theorem dL_isPut_45 : decode cL_isPut 45 = .ok (.ishl, 1) := by decide +kernel
theorem dL_isPut_46 : decode cL_isPut 46 = .ok (.iconst (-1), 1) := by decide +kernel
theorem dL_isPut_47 : decode cL_isPut 47 = .ok (.ixor, 1) := by decide +kernel
theorem dL_isPut_48 : decode cL_isPut 48 = .ok (.iand, 1) := by decide +kernel
theorem dL_isPut_49 : decode cL_isPut 49 = .ok (.if_icmp .ne 21, 3) := by decide +kernel
theorem dL_isPut_52 : decode cL_isPut 52 = .ok (.aload_n 0, 1) := by decide +kernel
theorem dL_isPut_53 : decode cL_isPut 53 = .ok (.iload_n 1, 1) := by decide +kernel
theorem dL_isPut_54 : decode cL_isPut 54 = .ok (.iconst 2, 1) := by decide +kernel
theorem dL_isPut_55 : decode cL_isPut 55 = .ok (.invokevirtual 23, 3) := by decide +kernel
theorem dL_isPut_58 : decode cL_isPut 58 = .ok (.aload_n 0, 1) := by decide +kernel
theorem dL_isPut_59 : decode cL_isPut 59 = .ok (.iconst 0, 1) := by decide +kernel
theorem dL_isPut_60 : decode cL_isPut 60 = .ok (.invokevirtual 14, 3) := by decide +kernel
theorem dL_isPut_63 : decode cL_isPut 63 = .ok (.if_icmp .ne 7, 3) := by decide +kernel
theorem dL_isPut_66 : decode cL_isPut 66 = .ok (.iconst 1, 1) := by decide +kernel
theorem dL_isPut_67 : decode cL_isPut 67 = .ok (.goto 41, 3) := by decide +kernel
theorem dL_isPut_70 : decode cL_isPut 70 = .ok (.iconst 0, 1) := by decide +kernel
theorem dL_isPut_71 : decode cL_isPut 71 = .ok (.goto 37, 3) := by decide +kernel
theorem dL_isPut_74 : decode cL_isPut 74 = .ok (.iload 4, 2) := by decide +kernel
theorem dL_isPut_76 : decode cL_isPut 76 = .ok (.iload_n 1, 1) := by decide +kernel
theorem dL_isPut_77 : decode cL_isPut 77 = .ok (.aload_n 0, 1) := by decide +kernel
theorem dL_isPut_78 : decode cL_isPut 78 = .ok (.iconst 3, 1) := by decide +kernel
theorem dL_isPut_79 : decode cL_isPut 79 = .ok (.invokevirtual 14, 3) := by decide +kernel
theorem dL_isPut_82 : decode cL_isPut 82 = .ok (.if_icmp .ge 8, 3) := by decide +kernel
theorem dL_isPut_85 : decode cL_isPut 85 = .ok (.bipush (-5), 2) := by decide +kernel
theorem dL_isPut_87 : decode cL_isPut 87 = .ok (.goto 4, 3) := by decide +kernel
theorem dL_isPut_90 : decode cL_isPut 90 = .ok (.iconst (-1), 1) := by decide +kernel
theorem dL_isPut_91 : decode cL_isPut 91 = .ok (.if_icmp .ne 16, 3) := by decide +kernel
theorem dL_isPut_94 : decode cL_isPut 94 = .ok (.aload_n 0, 1) := by decide +kernel
theorem dL_isPut_95 : decode cL_isPut 95 = .ok (.iconst 1, 1) := by decide +kernel
theorem dL_isPut_96 : decode cL_isPut 96 = .ok (.invokevirtual 14, 3) := by decide +kernel
theorem dL_isPut_99 : decode cL_isPut 99 = .ok (.iload_n 2, 1) := by decide +kernel
theorem dL_isPut_100 : decode cL_isPut 100 = .ok (.if_icmp .ne 7, 3) := by decide +kernel
theorem dL_isPut_103 : decode cL_isPut 103 = .ok (.iconst 1, 1) := by decide +kernel
theorem dL_isPut_104 : decode cL_isPut 104 = .ok (.goto 4, 3) := by decide +kernel
theorem dL_isPut_107 : decode cL_isPut 107 = .ok (.iconst 0, 1) := by decide +kernel
theorem dL_isPut_108 : decode cL_isPut 108 = .ok (.ireturn, 1) := by decide +kernel
theorem dL_isGone_0 : decode cL_isGone 0 = .ok (.iload_n 1, 1) := by decide +kernel
theorem dL_isGone_1 : decode cL_isGone 1 = .ok (.aload_n 0, 1) := by decide +kernel
theorem dL_isGone_2 : decode cL_isGone 2 = .ok (.iconst 2, 1) := by decide +kernel
theorem dL_isGone_3 : decode cL_isGone 3 = .ok (.invokevirtual 14, 3) := by decide +kernel
theorem dL_isGone_6 : decode cL_isGone 6 = .ok (.if_icmp .lt 18, 3) := by decide +kernel
theorem dL_isGone_9 : decode cL_isGone 9 = .ok (.aload_n 0, 1) := by decide +kernel
theorem dL_isGone_10 : decode cL_isGone 10 = .ok (.iload_n 1, 1) := by decide +kernel
theorem dL_isGone_11 : decode cL_isGone 11 = .ok (.invokevirtual 67, 3) := by decide +kernel
theorem dL_isGone_14 : decode cL_isGone 14 = .ok (.iconst (-1), 1) := by decide +kernel
theorem dL_isGone_15 : decode cL_isGone 15 = .ok (.if_icmp .ne 7, 3) := by decide +kernel
theorem dL_isGone_18 : decode cL_isGone 18 = .ok (.iconst 1, 1) := by decide +kernel
theorem dL_isGone_19 : decode cL_isGone 19 = .ok (.goto 4, 3) := by decide +kernel
theorem dL_isGone_22 : decode cL_isGone 22 = .ok (.iconst 0, 1) := by decide +kernel
theorem dL_isGone_23 : decode cL_isGone 23 = .ok (.ireturn, 1) := by decide +kernel
theorem dL_isGone_24 : decode cL_isGone 24 = .ok (.aload_n 0, 1) := by decide +kernel
theorem dL_isGone_25 : decode cL_isGone 25 = .ok (.iconst 0, 1) := by decide +kernel
theorem dL_isGone_26 : decode cL_isGone 26 = .ok (.invokevirtual 14, 3) := by decide +kernel
theorem dL_isGone_29 : decode cL_isGone 29 = .ok (.istore_n 2, 1) := by decide +kernel
theorem dL_isGone_30 : decode cL_isGone 30 = .ok (.aload_n 0, 1) := by decide +kernel
theorem dL_isGone_31 : decode cL_isGone 31 = .ok (.bipush 10, 2) := by decide +kernel
theorem dL_isGone_33 : decode cL_isGone 33 = .ok (.invokevirtual 14, 3) := by decide +kernel
theorem dL_isGone_36 : decode cL_isGone 36 = .ok (.istore_n 3, 1) := by decide +kernel
theorem dL_isGone_37 : decode cL_isGone 37 = .ok (.aload_n 0, 1) := by decide +kernel
theorem dL_isGone_38 : decode cL_isGone 38 = .ok (.iload_n 1, 1) := by decide +kernel
theorem dL_isGone_39 : decode cL_isGone 39 = .ok (.iconst 0, 1) := by decide +kernel
theorem dL_isGone_40 : decode cL_isGone 40 = .ok (.invokevirtual 20, 3) := by decide +kernel
theorem dL_isGone_43 : decode cL_isGone 43 = .ok (.iload_n 2, 1) := by decide +kernel
theorem dL_isGone_44 : decode cL_isGone 44 = .ok (.if_icmp .eq 13, 3) := by decide +kernel
theorem dL_isGone_47 : decode cL_isGone 47 = .ok (.aload_n 0, 1) := by decide +kernel
theorem dL_isGone_48 : decode cL_isGone 48 = .ok (.iload_n 1, 1) := by decide +kernel
theorem dL_isGone_49 : decode cL_isGone 49 = .ok (.iconst 1, 1) := by decide +kernel
theorem dL_isGone_50 : decode cL_isGone 50 = .ok (.invokevirtual 20, 3) := by decide +kernel
theorem dL_isGone_53 : decode cL_isGone 53 = .ok (.iload_n 2, 1) := by decide +kernel
theorem dL_isGone_54 : decode cL_isGone 54 = .ok (.if_icmp .ne 7, 3) := by decide +kernel
theorem dL_isGone_57 : decode cL_isGone 57 = .ok (.iconst 1, 1) := by decide +kernel
theorem dL_isGone_58 : decode cL_isGone 58 = .ok (.goto 4, 3) := by decide +kernel
theorem dL_isGone_61 : decode cL_isGone 61 = .ok (.iconst 0, 1) := by decide +kernel
theorem dL_isGone_62 : decode cL_isGone 62 = .ok (.istore 4, 2) := by decide +kernel
theorem dL_isGone_64 : decode cL_isGone 64 = .ok (.iload 4, 2) := by decide +kernel
theorem dL_isGone_66 : decode cL_isGone 66 = .ok (.ifCond .eq 23, 3) := by decide +kernel
theorem dL_isGone_69 : decode cL_isGone 69 = .ok (.aload_n 0, 1) := by decide +kernel
theorem dL_isGone_70 : decode cL_isGone 70 = .ok (.iconst 1, 1) := by decide +kernel
theorem dL_isGone_71 : decode cL_isGone 71 = .ok (.invokevirtual 14, 3) := by decide +kernel
theorem dL_isGone_74 : decode cL_isGone 74 = .ok (.aload_n 0, 1) := by decide +kernel
theorem dL_isGone_75 : decode cL_isGone 75 = .ok (.iload_n 1, 1) := by decide +kernel
theorem dL_isGone_76 : decode cL_isGone 76 = .ok (.bipush 6, 2) := by decide +kernel
theorem dL_isGone_78 : decode cL_isGone 78 = .ok (.invokevirtual 20, 3) := by decide +kernel
theorem dL_isGone_81 : decode cL_isGone 81 = .ok (.iand, 1) := by decide +kernel
theorem dL_isGone_82 : decode cL_isGone 82 = .ok (.ifCond .eq 7, 3) := by decide +kernel
theorem dL_isGone_85 : decode cL_isGone 85 = .ok (.iconst 1, 1) := by decide +kernel
theorem dL_isGone_86 : decode cL_isGone 86 = .ok (.goto 4, 3) := by decide +kernel
theorem dL_isGone_89 : decode cL_isGone 89 = .ok (.iconst 0, 1) := by decide +kernel
theorem dL_isGone_90 : decode cL_isGone 90 = .ok (.istore 5, 2) := by decide +kernel
theorem dL_isGone_92 : decode cL_isGone 92 = .ok (.aload_n 0, 1) := by decide +kernel
theorem dL_isGone_93 : decode cL_isGone 93 = .ok (.iload_n 1, 1) := by decide +kernel
theorem dL_isGone_94 : decode cL_isGone 94 = .ok (.iconst 0, 1) := by decide +kernel
theorem dL_isGone_95 : decode cL_isGone 95 = .ok (.invokevirtual 20, 3) := by decide +kernel
theorem dL_isGone_98 : decode cL_isGone 98 = .ok (.aload_n 0, 1) := by decide +kernel
theorem dL_isGone_99 : decode cL_isGone 99 = .ok (.iload_n 1, 1) := by decide +kernel
theorem dL_isGone_100 : decode cL_isGone 100 = .ok (.iconst 1, 1) := by decide +kernel
theorem dL_isGone_101 : decode cL_isGone 101 = .ok (.invokevirtual 20, 3) := by decide +kernel
theorem dL_isGone_104 : decode cL_isGone 104 = .ok (.iadd, 1) := by decide +kernel
theorem dL_isGone_105 : decode cL_isGone 105 = .ok (.iload_n 2, 1) := by decide +kernel
theorem dL_isGone_106 : decode cL_isGone 106 = .ok (.isub, 1) := by decide +kernel
theorem dL_isGone_107 : decode cL_isGone 107 = .ok (.istore 6, 2) := by decide +kernel
theorem dL_isGone_109 : decode cL_isGone 109 = .ok (.iload 5, 2) := by decide +kernel
theorem dL_isGone_111 : decode cL_isGone 111 = .ok (.ifCond .eq 25, 3) := by decide +kernel
theorem dL_isGone_114 : decode cL_isGone 114 = .ok (.aload_n 0, 1) := by decide +kernel
theorem dL_isGone_115 : decode cL_isGone 115 = .ok (.invokevirtual 70, 3) := by decide +kernel
theorem dL_isGone_118 : decode cL_isGone 118 = .ok (.iload 6, 2) := by decide +kernel
theorem dL_isGone_120 : decode cL_isGone 120 = .ok (.invokestatic 36, 3) := by decide +kernel
theorem dL_isGone_123 : decode cL_isGone 123 = .ok (.ifCond .eq 17, 3) := by decide +kernel
theorem dL_isGone_126 : decode cL_isGone 126 = .ok (.aload_n 0, 1) := by decide +kernel
theorem dL_isGone_127 : decode cL_isGone 127 = .ok (.iload 6, 2) := by decide +kernel
theorem dL_isGone_129 : decode cL_isGone 129 = .ok (.invokevirtual 74, 3) := by decide +kernel
theorem dL_isGone_132 : decode cL_isGone 132 = .ok (.iconst 1, 1) := by decide +kernel
theorem dL_isGone_133 : decode cL_isGone 133 = .ok (.if_icmp .ne 7, 3) := by decide +kernel
theorem dL_isGone_136 : decode cL_isGone 136 = .ok (.iconst 1, 1) := by decide +kernel
theorem dL_isGone_137 : decode cL_isGone 137 = .ok (.goto 4, 3) := by decide +kernel
theorem dL_isGone_140 : decode cL_isGone 140 = .ok (.iconst 0, 1) := by decide +kernel
theorem dL_isGone_141 : decode cL_isGone 141 = .ok (.istore 7, 2) := by decide +kernel
theorem dL_isGone_143 : decode cL_isGone 143 = .ok (.aload_n 0, 1) := by decide +kernel
theorem dL_isGone_144 : decode cL_isGone 144 = .ok (.iload_n 1, 1) := by decide +kernel
theorem dL_isGone_145 : decode cL_isGone 145 = .ok (.invokevirtual 67, 3) := by decide +kernel
theorem dL_isGone_148 : decode cL_isGone 148 = .ok (.istore 8, 2) := by decide +kernel
theorem dL_isGone_150 : decode cL_isGone 150 = .ok (.iload 7, 2) := by decide +kernel
theorem dL_isGone_152 : decode cL_isGone 152 = .ok (.ifCond .eq 60, 3) := by decide +kernel
theorem dL_isGone_155 : decode cL_isGone 155 = .ok (.iload 5, 2) := by decide +kernel
theorem dL_isGone_157 : decode cL_isGone 157 = .ok (.ifCond .eq 35, 3) := by decide +kernel
theorem dL_isGone_160 : decode cL_isGone 160 = .ok (.iload 8, 2) := by decide +kernel
theorem dL_isGone_162 : decode cL_isGone 162 = .ok (.iload 6, 2) := by decide +kernel
theorem dL_isGone_164 : decode cL_isGone 164 = .ok (.if_icmp .ne 48, 3) := by decide +kernel
theorem dL_isGone_167 : decode cL_isGone 167 = .ok (.aload_n 0, 1) := by decide +kernel
theorem dL_isGone_168 : decode cL_isGone 168 = .ok (.iconst 0, 1) := by decide +kernel
theorem dL_isGone_169 : decode cL_isGone 169 = .ok (.invokevirtual 14, 3) := by decide +kernel
theorem dL_isGone_172 : decode cL_isGone 172 = .ok (.iload 6, 2) := by decide +kernel
theorem dL_isGone_174 : decode cL_isGone 174 = .ok (.if_icmp .ne 38, 3) := by decide +kernel
theorem dL_isGone_177 : decode cL_isGone 177 = .ok (.aload_n 0, 1) := by decide +kernel
theorem dL_isGone_178 : decode cL_isGone 178 = .ok (.bipush 10, 2) := by decide +kernel
theorem dL_isGone_180 : decode cL_isGone 180 = .ok (.invokevirtual 14, 3) := by decide +kernel
theorem dL_isGone_183 : decode cL_isGone 183 = .ok (.iload_n 3, 1) := by decide +kernel
theorem dL_isGone_184 : decode cL_isGone 184 = .ok (.iconst 1, 1) := by decide +kernel
theorem dL_isGone_185 : decode cL_isGone 185 = .ok (.iadd, 1) := by decide +kernel
theorem dL_isGone_186 : decode cL_isGone 186 = .ok (.if_icmp .ne 26, 3) := by decide +kernel
theorem dL_isGone_189 : decode cL_isGone 189 = .ok (.goto 19, 3) := by decide +kernel
theorem dL_isGone_192 : decode cL_isGone 192 = .ok (.iload 8, 2) := by decide +kernel
theorem dL_isGone_194 : decode cL_isGone 194 = .ok (.bipush (-5), 2) := by decide +kernel
theorem dL_isGone_196 : decode cL_isGone 196 = .ok (.if_icmp .ne 16, 3) := by decide +kernel
theorem dL_isGone_199 : decode cL_isGone 199 = .ok (.aload_n 0, 1) := by decide +kernel
theorem dL_isGone_200 : decode cL_isGone 200 = .ok (.iconst 0, 1) := by decide +kernel
theorem dL_isGone_201 : decode cL_isGone 201 = .ok (.invokevirtual 14, 3) := by decide +kernel
theorem dL_isGone_204 : decode cL_isGone 204 = .ok (.iload_n 2, 1) := by decide +kernel
theorem dL_isGone_205 : decode cL_isGone 205 = .ok (.if_icmp .ne 7, 3) := by decide +kernel
theorem dL_isGone_208 : decode cL_isGone 208 = .ok (.iconst 1, 1) := by decide +kernel
theorem dL_isGone_209 : decode cL_isGone 209 = .ok (.goto 4, 3) := by decide +kernel
theorem dL_isGone_212 : decode cL_isGone 212 = .ok (.iconst 0, 1) := by decide +kernel
theorem dL_isGone_213 : decode cL_isGone 213 = .ok (.ireturn, 1) := by decide +kernel
theorem dL_isPlanned_0 : decode cL_isPlanned 0 = .ok (.aload_n 0, 1) := by decide +kernel
theorem dL_isPlanned_1 : decode cL_isPlanned 1 = .ok (.bipush 9, 2) := by decide +kernel
theorem dL_isPlanned_3 : decode cL_isPlanned 3 = .ok (.invokevirtual 14, 3) := by decide +kernel
theorem dL_isPlanned_6 : decode cL_isPlanned 6 = .ok (.istore 4, 2) := by decide +kernel
theorem dL_isPlanned_8 : decode cL_isPlanned 8 = .ok (.iload_n 1, 1) := by decide +kernel
theorem dL_isPlanned_9 : decode cL_isPlanned 9 = .ok (.aload_n 0, 1) := by decide +kernel
theorem dL_isPlanned_10 : decode cL_isPlanned 10 = .ok (.iconst 2, 1) := by decide +kernel
theorem dL_isPlanned_11 : decode cL_isPlanned 11 = .ok (.invokevirtual 14, 3) := by decide +kernel
theorem dL_isPlanned_14 : decode cL_isPlanned 14 = .ok (.if_icmp .ge 7, 3) := by decide +kernel
theorem dL_isPlanned_17 : decode cL_isPlanned 17 = .ok (.iconst 1, 1) := by decide +kernel
theorem dL_isPlanned_18 : decode cL_isPlanned 18 = .ok (.goto 4, 3) := by decide +kernel
theorem dL_isPlanned_21 : decode cL_isPlanned 21 = .ok (.iconst 0, 1) := by decide +kernel
theorem dL_isPlanned_22 : decode cL_isPlanned 22 = .ok (.istore 5, 2) := by decide +kernel
theorem dL_isPlanned_24 : decode cL_isPlanned 24 = .ok (.iload 5, 2) := by decide +kernel
theorem dL_isPlanned_26 : decode cL_isPlanned 26 = .ok (.ifCond .eq 13, 3) := by decide +kernel
theorem dL_isPlanned_29 : decode cL_isPlanned 29 = .ok (.aload_n 0, 1) := by decide +kernel
theorem dL_isPlanned_30 : decode cL_isPlanned 30 = .ok (.iload_n 1, 1) := by decide +kernel
theorem dL_isPlanned_31 : decode cL_isPlanned 31 = .ok (.bipush 7, 2) := by decide +kernel
theorem dL_isPlanned_33 : decode cL_isPlanned 33 = .ok (.invokevirtual 20, 3) := by decide +kernel
theorem dL_isPlanned_36 : decode cL_isPlanned 36 = .ok (.goto 5, 3) := by decide +kernel
theorem dL_isPlanned_39 : decode cL_isPlanned 39 = .ok (.bipush (-6), 2) := by decide +kernel
theorem dL_isPlanned_41 : decode cL_isPlanned 41 = .ok (.istore 6, 2) := by decide +kernel
theorem dL_isPlanned_43 : decode cL_isPlanned 43 = .ok (.aload_n 0, 1) := by decide +kernel
theorem dL_isPlanned_44 : decode cL_isPlanned 44 = .ok (.iload_n 1, 1) := by decide +kernel
theorem dL_isPlanned_45 : decode cL_isPlanned 45 = .ok (.iload_n 2, 1) := by decide +kernel
theorem dL_isPlanned_46 : decode cL_isPlanned 46 = .ok (.iload_n 3, 1) := by decide +kernel
theorem dL_isPlanned_47 : decode cL_isPlanned 47 = .ok (.invokevirtual 77, 3) := by decide +kernel
theorem dL_isPlanned_50 : decode cL_isPlanned 50 = .ok (.istore 7, 2) := by decide +kernel
theorem dL_isPlanned_52 : decode cL_isPlanned 52 = .ok (.iload 5, 2) := by decide +kernel
theorem dL_isPlanned_54 : decode cL_isPlanned 54 = .ok (.ifCond .eq 15, 3) := by decide +kernel
theorem dL_isPlanned_57 : decode cL_isPlanned 57 = .ok (.iload 4, 2) := by decide +kernel
theorem dL_isPlanned_59 : decode cL_isPlanned 59 = .ok (.bipush 6, 2) := by decide +kernel
theorem dL_isPlanned_61 : decode cL_isPlanned 61 = .ok (.if_icmp .eq 8, 3) := by decide +kernel
theorem dL_isPlanned_64 : decode cL_isPlanned 64 = .ok (.iload 6, 2) := by decide +kernel
theorem dL_isPlanned_66 : decode cL_isPlanned 66 = .ok (.ifCond .lt 48, 3) := by decide +kernel
theorem dL_isPlanned_69 : decode cL_isPlanned 69 = .ok (.iload 7, 2) := by decide +kernel
theorem dL_isPlanned_71 : decode cL_isPlanned 71 = .ok (.iload 5, 2) := by decide +kernel
theorem dL_isPlanned_73 : decode cL_isPlanned 73 = .ok (.ifCond .ne 7, 3) := by decide +kernel
theorem dL_isPlanned_76 : decode cL_isPlanned 76 = .ok (.iconst (-1), 1) := by decide +kernel
theorem dL_isPlanned_77 : decode cL_isPlanned 77 = .ok (.goto 17, 3) := by decide +kernel
theorem dL_isPlanned_80 : decode cL_isPlanned 80 = .ok (.iload 4, 2) := by decide +kernel
theorem dL_isPlanned_82 : decode cL_isPlanned 82 = .ok (.bipush 6, 2) := by decide +kernel
theorem dL_isPlanned_84 : decode cL_isPlanned 84 = .ok (.if_icmp .ne 8, 3) := by decide +kernel
theorem dL_isPlanned_87 : decode cL_isPlanned 87 = .ok (.bipush (-4), 2) := by decide +kernel
theorem dL_isPlanned_89 : decode cL_isPlanned 89 = .ok (.goto 5, 3) := by decide +kernel
theorem dL_isPlanned_92 : decode cL_isPlanned 92 = .ok (.bipush (-5), 2) := by decide +kernel
theorem dL_isPlanned_94 : decode cL_isPlanned 94 = .ok (.if_icmp .ne 18, 3) := by decide +kernel
theorem dL_isPlanned_97 : decode cL_isPlanned 97 = .ok (.aload_n 0, 1) := by decide +kernel
theorem dL_isPlanned_98 : decode cL_isPlanned 98 = .ok (.bipush 9, 2) := by decide +kernel
theorem dL_isPlanned_100 : decode cL_isPlanned 100 = .ok (.invokevirtual 14, 3) := by decide +kernel
theorem dL_isPlanned_103 : decode cL_isPlanned 103 = .ok (.iload 4, 2) := by decide +kernel
theorem dL_isPlanned_105 : decode cL_isPlanned 105 = .ok (.if_icmp .ne 7, 3) := by decide +kernel
theorem dL_isPlanned_108 : decode cL_isPlanned 108 = .ok (.iconst 1, 1) := by decide +kernel
theorem dL_isPlanned_109 : decode cL_isPlanned 109 = .ok (.goto 4, 3) := by decide +kernel
theorem dL_isPlanned_112 : decode cL_isPlanned 112 = .ok (.iconst 0, 1) := by decide +kernel
theorem dL_isPlanned_113 : decode cL_isPlanned 113 = .ok (.ireturn, 1) := by decide +kernel
theorem dL_isPlanned_114 : decode cL_isPlanned 114 = .ok (.iload 7, 2) := by decide +kernel
theorem dL_isPlanned_116 : decode cL_isPlanned 116 = .ok (.iload 4, 2) := by decide +kernel
theorem dL_isPlanned_118 : decode cL_isPlanned 118 = .ok (.iconst 1, 1) := by decide +kernel
theorem dL_isPlanned_119 : decode cL_isPlanned 119 = .ok (.iadd, 1) := by decide +kernel
theorem dL_isPlanned_120 : decode cL_isPlanned 120 = .ok (.if_icmp .ne 32, 3) := by decide +kernel
theorem dL_isPlanned_123 : decode cL_isPlanned 123 = .ok (.aload_n 0, 1) := by decide +kernel
theorem dL_isPlanned_124 : decode cL_isPlanned 124 = .ok (.iload_n 1, 1) := by decide +kernel
theorem dL_isPlanned_125 : decode cL_isPlanned 125 = .ok (.bipush 7, 2) := by decide +kernel
theorem dL_isPlanned_127 : decode cL_isPlanned 127 = .ok (.invokevirtual 20, 3) := by decide +kernel
theorem dL_isPlanned_130 : decode cL_isPlanned 130 = .ok (.iload 4, 2) := by decide +kernel
theorem dL_isPlanned_132 : decode cL_isPlanned 132 = .ok (.if_icmp .ne 20, 3) := by decide +kernel
theorem dL_isPlanned_135 : decode cL_isPlanned 135 = .ok (.aload_n 0, 1) := by decide +kernel
theorem dL_isPlanned_136 : decode cL_isPlanned 136 = .ok (.bipush 9, 2) := by decide +kernel
theorem dL_isPlanned_138 : decode cL_isPlanned 138 = .ok (.invokevirtual 14, 3) := by decide +kernel
theorem dL_isPlanned_141 : decode cL_isPlanned 141 = .ok (.iload 4, 2) := by decide +kernel
theorem dL_isPlanned_143 : decode cL_isPlanned 143 = .ok (.iconst 1, 1) := by decide +kernel
theorem dL_isPlanned_144 : decode cL_isPlanned 144 = .ok (.iadd, 1) := by decide +kernel
theorem dL_isPlanned_145 : decode cL_isPlanned 145 = .ok (.if_icmp .ne 7, 3) := by decide +kernel
theorem dL_isPlanned_148 : decode cL_isPlanned 148 = .ok (.iconst 1, 1) := by decide +kernel
theorem dL_isPlanned_149 : decode cL_isPlanned 149 = .ok (.goto 4, 3) := by decide +kernel
theorem dL_isPlanned_152 : decode cL_isPlanned 152 = .ok (.iconst 0, 1) := by decide +kernel
theorem dL_isPlanned_153 : decode cL_isPlanned 153 = .ok (.ireturn, 1) := by decide +kernel
theorem dL_isCarried_0 : decode cL_isCarried 0 = .ok (.aload_n 0, 1) := by decide +kernel
theorem dL_isCarried_1 : decode cL_isCarried 1 = .ok (.bipush 9, 2) := by decide +kernel
theorem dL_isCarried_3 : decode cL_isCarried 3 = .ok (.invokevirtual 14, 3) := by decide +kernel
theorem dL_isCarried_6 : decode cL_isCarried 6 = .ok (.istore_n 1, 1) := by decide +kernel
theorem dL_isCarried_7 : decode cL_isCarried 7 = .ok (.aload_n 0, 1) := by decide +kernel
theorem dL_isCarried_8 : decode cL_isCarried 8 = .ok (.iconst 0, 1) := by decide +kernel
theorem dL_isCarried_9 : decode cL_isCarried 9 = .ok (.invokevirtual 80, 3) := by decide +kernel
theorem dL_isCarried_12 : decode cL_isCarried 12 = .ok (.istore_n 2, 1) := by decide +kernel
theorem dL_isCarried_13 : decode cL_isCarried 13 = .ok (.aload_n 0, 1) := by decide +kernel
theorem dL_isCarried_14 : decode cL_isCarried 14 = .ok (.invokevirtual 83, 3) := by decide +kernel
theorem dL_isCarried_17 : decode cL_isCarried 17 = .ok (.istore_n 3, 1) := by decide +kernel
theorem dL_isCarried_18 : decode cL_isCarried 18 = .ok (.aload_n 0, 1) := by decide +kernel
theorem dL_isCarried_19 : decode cL_isCarried 19 = .ok (.invokevirtual 86, 3) := by decide +kernel
theorem dL_isCarried_22 : decode cL_isCarried 22 = .ok (.istore 4, 2) := by decide +kernel
theorem dL_isCarried_24 : decode cL_isCarried 24 = .ok (.aload_n 0, 1) := by decide +kernel
theorem dL_isCarried_25 : decode cL_isCarried 25 = .ok (.iload_n 1, 1) := by decide +kernel
theorem dL_isCarried_26 : decode cL_isCarried 26 = .ok (.ifCond .ne 7, 3) := by decide +kernel
theorem dL_isCarried_29 : decode cL_isCarried 29 = .ok (.iconst 0, 1) := by decide +kernel
theorem dL_isCarried_30 : decode cL_isCarried 30 = .ok (.goto 6, 3) := by decide +kernel
theorem dL_isCarried_33 : decode cL_isCarried 33 = .ok (.iload_n 1, 1) := by decide +kernel
theorem dL_isCarried_34 : decode cL_isCarried 34 = .ok (.iconst 1, 1) := by decide +kernel
theorem dL_isCarried_35 : decode cL_isCarried 35 = .ok (.isub, 1) := by decide +kernel
theorem dL_isCarried_36 : decode cL_isCarried 36 = .ok (.invokevirtual 80, 3) := by decide +kernel
theorem dL_isCarried_39 : decode cL_isCarried 39 = .ok (.istore 5, 2) := by decide +kernel
theorem dL_isCarried_41 : decode cL_isCarried 41 = .ok (.aload_n 0, 1) := by decide +kernel
theorem dL_isCarried_42 : decode cL_isCarried 42 = .ok (.invokevirtual 89, 3) := by decide +kernel
theorem dL_isCarried_45 : decode cL_isCarried 45 = .ok (.istore 6, 2) := by decide +kernel
theorem dL_isCarried_47 : decode cL_isCarried 47 = .ok (.aload_n 0, 1) := by decide +kernel
theorem dL_isCarried_48 : decode cL_isCarried 48 = .ok (.iconst 5, 1) := by decide +kernel
theorem dL_isCarried_49 : decode cL_isCarried 49 = .ok (.invokevirtual 14, 3) := by decide +kernel
theorem dL_isCarried_52 : decode cL_isCarried 52 = .ok (.istore 7, 2) := by decide +kernel
theorem dL_isCarried_54 : decode cL_isCarried 54 = .ok (.aload_n 0, 1) := by decide +kernel
theorem dL_isCarried_55 : decode cL_isCarried 55 = .ok (.bipush 7, 2) := by decide +kernel
theorem dL_isCarried_57 : decode cL_isCarried 57 = .ok (.invokevirtual 14, 3) := by decide +kernel
theorem dL_isCarried_60 : decode cL_isCarried 60 = .ok (.istore 8, 2) := by decide +kernel
theorem dL_isCarried_62 : decode cL_isCarried 62 = .ok (.iload_n 3, 1) := by decide +kernel
theorem dL_isCarried_63 : decode cL_isCarried 63 = .ok (.ifCond .ne 7, 3) := by decide +kernel
theorem dL_isCarried_66 : decode cL_isCarried 66 = .ok (.iconst 1, 1) := by decide +kernel
theorem dL_isCarried_67 : decode cL_isCarried 67 = .ok (.goto 4, 3) := by decide +kernel
theorem dL_isCarried_70 : decode cL_isCarried 70 = .ok (.iconst 0, 1) := by decide +kernel
theorem dL_isCarried_71 : decode cL_isCarried 71 = .ok (.iload 4, 2) := by decide +kernel
theorem dL_isCarried_73 : decode cL_isCarried 73 = .ok (.ifCond .le 7, 3) := by decide +kernel
theorem dL_isCarried_76 : decode cL_isCarried 76 = .ok (.iconst 1, 1) := by decide +kernel
theorem dL_isCarried_77 : decode cL_isCarried 77 = .ok (.goto 4, 3) := by decide +kernel
theorem dL_isCarried_80 : decode cL_isCarried 80 = .ok (.iconst 0, 1) := by decide +kernel
theorem dL_isCarried_81 : decode cL_isCarried 81 = .ok (.if_icmp .ne 72, 3) := by decide +kernel
theorem dL_isCarried_84 : decode cL_isCarried 84 = .ok (.iload_n 1, 1) := by decide +kernel
theorem dL_isCarried_85 : decode cL_isCarried 85 = .ok (.ifCond .le 24, 3) := by decide +kernel
theorem dL_isCarried_88 : decode cL_isCarried 88 = .ok (.iload_n 3, 1) := by decide +kernel
theorem dL_isCarried_89 : decode cL_isCarried 89 = .ok (.ifCond .ne 7, 3) := by decide +kernel
theorem dL_isCarried_92 : decode cL_isCarried 92 = .ok (.iconst 1, 1) := by decide +kernel
theorem dL_isCarried_93 : decode cL_isCarried 93 = .ok (.goto 4, 3) := by decide +kernel
theorem dL_isCarried_96 : decode cL_isCarried 96 = .ok (.iconst 0, 1) := by decide +kernel
theorem dL_isCarried_97 : decode cL_isCarried 97 = .ok (.iload_n 2, 1) := by decide +kernel
theorem dL_isCarried_98 : decode cL_isCarried 98 = .ok (.ifCond .ge 7, 3) := by decide +kernel
theorem dL_isCarried_101 : decode cL_isCarried 101 = .ok (.iconst 1, 1) := by decide +kernel
theorem dL_isCarried_102 : decode cL_isCarried 102 = .ok (.goto 4, 3) := by decide +kernel
theorem dL_isCarried_105 : decode cL_isCarried 105 = .ok (.iconst 0, 1) := by decide +kernel
theorem dL_isCarried_106 : decode cL_isCarried 106 = .ok (.if_icmp .ne 47, 3) := by decide +kernel
theorem dL_isCarried_109 : decode cL_isCarried 109 = .ok (.iload 6, 2) := by decide +kernel
theorem dL_isCarried_111 : decode cL_isCarried 111 = .ok (.ifCond .lt 10, 3) := by decide +kernel
theorem dL_isCarried_114 : decode cL_isCarried 114 = .ok (.iload 6, 2) := by decide +kernel
theorem dL_isCarried_116 : decode cL_isCarried 116 = .ok (.iload 5, 2) := by decide +kernel
theorem dL_isCarried_118 : decode cL_isCarried 118 = .ok (.if_icmp .ne 35, 3) := by decide +kernel
theorem dL_isCarried_121 : decode cL_isCarried 121 = .ok (.iload_n 3, 1) := by decide +kernel
theorem dL_isCarried_122 : decode cL_isCarried 122 = .ok (.iconst 1, 1) := by decide +kernel
theorem dL_isCarried_123 : decode cL_isCarried 123 = .ok (.if_icmp .ne 14, 3) := by decide +kernel
theorem dL_isCarried_126 : decode cL_isCarried 126 = .ok (.iload_n 1, 1) := by decide +kernel
theorem dL_isCarried_127 : decode cL_isCarried 127 = .ok (.ifCond .le 10, 3) := by decide +kernel
theorem dL_isCarried_130 : decode cL_isCarried 130 = .ok (.iload 6, 2) := by decide +kernel
theorem dL_isCarried_132 : decode cL_isCarried 132 = .ok (.iload 5, 2) := by decide +kernel
theorem dL_isCarried_134 : decode cL_isCarried 134 = .ok (.if_icmp .ne 19, 3) := by decide +kernel
theorem dL_isCarried_137 : decode cL_isCarried 137 = .ok (.iload_n 1, 1) := by decide +kernel
theorem dL_isCarried_138 : decode cL_isCarried 138 = .ok (.ifCond .ne 17, 3) := by decide +kernel
theorem dL_isCarried_141 : decode cL_isCarried 141 = .ok (.iload_n 3, 1) := by decide +kernel
theorem dL_isCarried_142 : decode cL_isCarried 142 = .ok (.iconst 1, 1) := by decide +kernel
theorem dL_isCarried_143 : decode cL_isCarried 143 = .ok (.if_icmp .ne 10, 3) := by decide +kernel
theorem dL_isCarried_146 : decode cL_isCarried 146 = .ok (.iload 6, 2) := by decide +kernel
theorem dL_isCarried_148 : decode cL_isCarried 148 = .ok (.bipush (-6), 2) := by decide +kernel
theorem dL_isCarried_150 : decode cL_isCarried 150 = .ok (.if_icmp .eq 5, 3) := by decide +kernel
theorem dL_isCarried_153 : decode cL_isCarried 153 = .ok (.iconst 0, 1) := by decide +kernel
theorem dL_isCarried_154 : decode cL_isCarried 154 = .ok (.ireturn, 1) := by decide +kernel
theorem dL_isCarried_155 : decode cL_isCarried 155 = .ok (.aload_n 0, 1) := by decide +kernel
theorem dL_isCarried_156 : decode cL_isCarried 156 = .ok (.invokevirtual 92, 3) := by decide +kernel
theorem dL_isCarried_159 : decode cL_isCarried 159 = .ok (.istore 9, 2) := by decide +kernel
theorem dL_isCarried_161 : decode cL_isCarried 161 = .ok (.iload_n 1, 1) := by decide +kernel
theorem dL_isCarried_162 : decode cL_isCarried 162 = .ok (.ifCond .eq 7, 3) := by decide +kernel
theorem dL_isCarried_165 : decode cL_isCarried 165 = .ok (.iload_n 3, 1) := by decide +kernel
theorem dL_isCarried_166 : decode cL_isCarried 166 = .ok (.ifCond .ne 47, 3) := by decide +kernel
theorem dL_isCarried_169 : decode cL_isCarried 169 = .ok (.iload 9, 2) := by decide +kernel
theorem dL_isCarried_171 : decode cL_isCarried 171 = .ok (.bipush (-5), 2) := by decide +kernel
theorem dL_isCarried_173 : decode cL_isCarried 173 = .ok (.if_icmp .ne 38, 3) := by decide +kernel
theorem dL_isCarried_176 : decode cL_isCarried 176 = .ok (.aload_n 0, 1) := by decide +kernel
theorem dL_isCarried_177 : decode cL_isCarried 177 = .ok (.bipush 9, 2) := by decide +kernel
theorem dL_isCarried_179 : decode cL_isCarried 179 = .ok (.invokevirtual 14, 3) := by decide +kernel
theorem dL_isCarried_182 : decode cL_isCarried 182 = .ok (.iload_n 1, 1) := by decide +kernel
theorem dL_isCarried_183 : decode cL_isCarried 183 = .ok (.if_icmp .ne 28, 3) := by decide +kernel
theorem dL_isCarried_186 : decode cL_isCarried 186 = .ok (.aload_n 0, 1) := by decide +kernel
theorem dL_isCarried_187 : decode cL_isCarried 187 = .ok (.bipush 7, 2) := by decide +kernel
theorem dL_isCarried_189 : decode cL_isCarried 189 = .ok (.invokevirtual 14, 3) := by decide +kernel
theorem dL_isCarried_192 : decode cL_isCarried 192 = .ok (.iload 8, 2) := by decide +kernel
theorem dL_isCarried_194 : decode cL_isCarried 194 = .ok (.if_icmp .ne 17, 3) := by decide +kernel
theorem dL_isCarried_197 : decode cL_isCarried 197 = .ok (.aload_n 0, 1) := by decide +kernel
theorem dL_isCarried_198 : decode cL_isCarried 198 = .ok (.iconst 5, 1) := by decide +kernel
theorem dL_isCarried_199 : decode cL_isCarried 199 = .ok (.invokevirtual 14, 3) := by decide +kernel
theorem dL_isCarried_202 : decode cL_isCarried 202 = .ok (.iload 7, 2) := by decide +kernel
theorem dL_isCarried_204 : decode cL_isCarried 204 = .ok (.if_icmp .ne 7, 3) := by decide +kernel
theorem dL_isCarried_207 : decode cL_isCarried 207 = .ok (.iconst 1, 1) := by decide +kernel
theorem dL_isCarried_208 : decode cL_isCarried 208 = .ok (.goto 4, 3) := by decide +kernel
theorem dL_isCarried_211 : decode cL_isCarried 211 = .ok (.iconst 0, 1) := by decide +kernel
theorem dL_isCarried_212 : decode cL_isCarried 212 = .ok (.ireturn, 1) := by decide +kernel
theorem dL_isCarried_213 : decode cL_isCarried 213 = .ok (.iload 9, 2) := by decide +kernel
theorem dL_isCarried_215 : decode cL_isCarried 215 = .ok (.aload_n 0, 1) := by decide +kernel
theorem dL_isCarried_216 : decode cL_isCarried 216 = .ok (.bipush 7, 2) := by decide +kernel
theorem dL_isCarried_218 : decode cL_isCarried 218 = .ok (.invokevirtual 14, 3) := by decide +kernel
theorem dL_isCarried_221 : decode cL_isCarried 221 = .ok (.if_icmp .ne 16, 3) := by decide +kernel
theorem dL_isCarried_224 : decode cL_isCarried 224 = .ok (.aload_n 0, 1) := by decide +kernel
theorem dL_isCarried_225 : decode cL_isCarried 225 = .ok (.bipush 9, 2) := by decide +kernel
theorem dL_isCarried_227 : decode cL_isCarried 227 = .ok (.invokevirtual 14, 3) := by decide +kernel
theorem dL_isCarried_230 : decode cL_isCarried 230 = .ok (.ifCond .ne 7, 3) := by decide +kernel
theorem dL_isCarried_233 : decode cL_isCarried 233 = .ok (.iconst 1, 1) := by decide +kernel
theorem dL_isCarried_234 : decode cL_isCarried 234 = .ok (.goto 4, 3) := by decide +kernel
theorem dL_isCarried_237 : decode cL_isCarried 237 = .ok (.iconst 0, 1) := by decide +kernel
theorem dL_isCarried_238 : decode cL_isCarried 238 = .ok (.ireturn, 1) := by decide +kernel
theorem dL_row_0 : decode cL_row 0 = .ok (.aload_n 0, 1) := by decide +kernel
theorem dL_row_1 : decode cL_row 1 = .ok (.iload_n 1, 1) := by decide +kernel
theorem dL_row_2 : decode cL_row 2 = .ok (.iconst 4, 1) := by decide +kernel
theorem dL_row_3 : decode cL_row 3 = .ok (.invokestatic 95, 3) := by decide +kernel
theorem dL_row_6 : decode cL_row 6 = .ok (.ifCond .ne 16, 3) := by decide +kernel
theorem dL_row_9 : decode cL_row 9 = .ok (.aload_n 0, 1) := by decide +kernel
theorem dL_row_10 : decode cL_row 10 = .ok (.iload_n 1, 1) := by decide +kernel
theorem dL_row_11 : decode cL_row 11 = .ok (.iconst 1, 1) := by decide +kernel
theorem dL_row_12 : decode cL_row 12 = .ok (.iadd, 1) := by decide +kernel
theorem dL_row_13 : decode cL_row 13 = .ok (.sipush 10000, 3) := by decide +kernel
theorem dL_row_16 : decode cL_row 16 = .ok (.invokestatic 95, 3) := by decide +kernel
theorem dL_row_19 : decode cL_row 19 = .ok (.goto 6, 3) := by decide +kernel
theorem dL_row_22 : decode cL_row 22 = .ok (.sipush 2345, 3) := by decide +kernel
theorem dL_row_25 : decode cL_row 25 = .ok (.istore_n 2, 1) := by decide +kernel
theorem dL_row_26 : decode cL_row 26 = .ok (.aload_n 0, 1) := by decide +kernel
theorem dL_row_27 : decode cL_row 27 = .ok (.iload_n 1, 1) := by decide +kernel
theorem dL_row_28 : decode cL_row 28 = .ok (.iconst 3, 1) := by decide +kernel
theorem dL_row_29 : decode cL_row 29 = .ok (.invokestatic 95, 3) := by decide +kernel
theorem dL_row_32 : decode cL_row 32 = .ok (.ifCond .ne 7, 3) := by decide +kernel
theorem dL_row_35 : decode cL_row 35 = .ok (.iload_n 2, 1) := by decide +kernel
theorem dL_row_36 : decode cL_row 36 = .ok (.goto 20, 3) := by decide +kernel
theorem dL_row_39 : decode cL_row 39 = .ok (.iload_n 2, 1) := by decide +kernel
theorem dL_row_40 : decode cL_row 40 = .ok (.bipush 10, 2) := by decide +kernel
theorem dL_row_42 : decode cL_row 42 = .ok (.idiv, 1) := by decide +kernel
theorem dL_row_43 : decode cL_row 43 = .ok (.bipush 10, 2) := by decide +kernel
theorem dL_row_45 : decode cL_row 45 = .ok (.imul, 1) := by decide +kernel
theorem dL_row_46 : decode cL_row 46 = .ok (.aload_n 0, 1) := by decide +kernel
theorem dL_row_47 : decode cL_row 47 = .ok (.iload_n 1, 1) := by decide +kernel
theorem dL_row_48 : decode cL_row 48 = .ok (.iconst 2, 1) := by decide +kernel
theorem dL_row_49 : decode cL_row 49 = .ok (.iadd, 1) := by decide +kernel
theorem dL_row_50 : decode cL_row 50 = .ok (.bipush 8, 2) := by decide +kernel
theorem dL_row_52 : decode cL_row 52 = .ok (.invokestatic 95, 3) := by decide +kernel
theorem dL_row_55 : decode cL_row 55 = .ok (.iadd, 1) := by decide +kernel
theorem dL_row_56 : decode cL_row 56 = .ok (.ireturn, 1) := by decide +kernel
theorem dL_isAct_0 : decode cL_isAct 0 = .ok (.aload_n 1, 1) := by decide +kernel
theorem dL_isAct_1 : decode cL_isAct 1 = .ok (.iload_n 2, 1) := by decide +kernel
theorem dL_isAct_2 : decode cL_isAct 2 = .ok (.iconst 1, 1) := by decide +kernel
theorem dL_isAct_3 : decode cL_isAct 3 = .ok (.iadd, 1) := by decide +kernel
theorem dL_isAct_4 : decode cL_isAct 4 = .ok (.aload_n 0, 1) := by decide +kernel
theorem dL_isAct_5 : decode cL_isAct 5 = .ok (.iconst 2, 1) := by decide +kernel
theorem dL_isAct_6 : decode cL_isAct 6 = .ok (.invokevirtual 14, 3) := by decide +kernel
theorem dL_isAct_9 : decode cL_isAct 9 = .ok (.iconst 1, 1) := by decide +kernel
theorem dL_isAct_10 : decode cL_isAct 10 = .ok (.iadd, 1) := by decide +kernel
theorem dL_isAct_11 : decode cL_isAct 11 = .ok (.invokestatic 95, 3) := by decide +kernel
theorem dL_isAct_14 : decode cL_isAct 14 = .ok (.istore_n 3, 1) := by decide +kernel
theorem dL_isAct_15 : decode cL_isAct 15 = .ok (.aload_n 1, 1) := by decide +kernel
theorem dL_isAct_16 : decode cL_isAct 16 = .ok (.iload_n 2, 1) := by decide +kernel
theorem dL_isAct_17 : decode cL_isAct 17 = .ok (.iconst 1, 1) := by decide +kernel
theorem dL_isAct_18 : decode cL_isAct 18 = .ok (.iadd, 1) := by decide +kernel
theorem dL_isAct_19 : decode cL_isAct 19 = .ok (.aload_n 0, 1) := by decide +kernel
theorem dL_isAct_20 : decode cL_isAct 20 = .ok (.iconst 3, 1) := by decide +kernel
theorem dL_isAct_21 : decode cL_isAct 21 = .ok (.invokevirtual 14, 3) := by decide +kernel
theorem dL_isAct_24 : decode cL_isAct 24 = .ok (.iconst 1, 1) := by decide +kernel
theorem dL_isAct_25 : decode cL_isAct 25 = .ok (.iadd, 1) := by decide +kernel
theorem dL_isAct_26 : decode cL_isAct 26 = .ok (.invokestatic 95, 3) := by decide +kernel
theorem dL_isAct_29 : decode cL_isAct 29 = .ok (.istore 4, 2) := by decide +kernel
theorem dL_isAct_31 : decode cL_isAct 31 = .ok (.aload_n 1, 1) := by decide +kernel
theorem dL_isAct_32 : decode cL_isAct 32 = .ok (.iload_n 2, 1) := by decide +kernel
theorem dL_isAct_33 : decode cL_isAct 33 = .ok (.iconst 2, 1) := by decide +kernel
theorem dL_isAct_34 : decode cL_isAct 34 = .ok (.iadd, 1) := by decide +kernel
theorem dL_isAct_35 : decode cL_isAct 35 = .ok (.invokestatic 99, 3) := by decide +kernel
theorem dL_isAct_38 : decode cL_isAct 38 = .ok (.istore 5, 2) := by decide +kernel
theorem dL_isAct_40 : decode cL_isAct 40 = .ok (.aload_n 1, 1) := by decide +kernel
theorem dL_isAct_41 : decode cL_isAct 41 = .ok (.iload_n 2, 1) := by decide +kernel
theorem dL_isAct_42 : decode cL_isAct 42 = .ok (.iconst 3, 1) := by decide +kernel
theorem dL_isAct_43 : decode cL_isAct 43 = .ok (.iadd, 1) := by decide +kernel
theorem dL_isAct_44 : decode cL_isAct 44 = .ok (.invokestatic 99, 3) := by decide +kernel
theorem dL_isAct_47 : decode cL_isAct 47 = .ok (.istore 6, 2) := by decide +kernel
theorem dL_isAct_49 : decode cL_isAct 49 = .ok (.aload_n 1, 1) := by decide +kernel
theorem dL_isAct_50 : decode cL_isAct 50 = .ok (.iload_n 2, 1) := by decide +kernel
theorem dL_isAct_51 : decode cL_isAct 51 = .ok (.bipush 18, 2) := by decide +kernel
theorem dL_isAct_53 : decode cL_isAct 53 = .ok (.invokestatic 95, 3) := by decide +kernel
theorem dL_isAct_56 : decode cL_isAct 56 = .ok (.tableswitch 249 0 16 #[84, 84, 94, 94, 109, 116, 116, 116, 123, 130, 130, 130, 136, 136, 146, 151, 206], 84) := by decide +kernel
theorem dL_isAct_140 : decode cL_isAct 140 = .ok (.aload_n 0, 1) := by decide +kernel
theorem dL_isAct_141 : decode cL_isAct 141 = .ok (.iload_n 3, 1) := by decide +kernel
theorem dL_isAct_142 : decode cL_isAct 142 = .ok (.iload 5, 2) := by decide +kernel
theorem dL_isAct_144 : decode cL_isAct 144 = .ok (.iload 6, 2) := by decide +kernel
theorem dL_isAct_146 : decode cL_isAct 146 = .ok (.invokestatic 103, 3) := by decide +kernel
theorem dL_isAct_149 : decode cL_isAct 149 = .ok (.ireturn, 1) := by decide +kernel
theorem dL_isAct_150 : decode cL_isAct 150 = .ok (.aload_n 0, 1) := by decide +kernel
theorem dL_isAct_151 : decode cL_isAct 151 = .ok (.iload 5, 2) := by decide +kernel
theorem dL_isAct_153 : decode cL_isAct 153 = .ok (.aload_n 1, 1) := by decide +kernel
theorem dL_isAct_154 : decode cL_isAct 154 = .ok (.iload_n 2, 1) := by decide +kernel
theorem dL_isAct_155 : decode cL_isAct 155 = .ok (.iconst 4, 1) := by decide +kernel
theorem dL_isAct_156 : decode cL_isAct 156 = .ok (.iadd, 1) := by decide +kernel
theorem dL_isAct_157 : decode cL_isAct 157 = .ok (.iconst 4, 1) := by decide +kernel
theorem dL_isAct_158 : decode cL_isAct 158 = .ok (.invokestatic 95, 3) := by decide +kernel
theorem dL_isAct_161 : decode cL_isAct 161 = .ok (.invokestatic 107, 3) := by decide +kernel
theorem dL_isAct_164 : decode cL_isAct 164 = .ok (.ireturn, 1) := by decide +kernel
theorem dL_isAct_165 : decode cL_isAct 165 = .ok (.aload_n 0, 1) := by decide +kernel
theorem dL_isAct_166 : decode cL_isAct 166 = .ok (.iload 4, 2) := by decide +kernel
theorem dL_isAct_168 : decode cL_isAct 168 = .ok (.invokestatic 111, 3) := by decide +kernel
theorem dL_isAct_171 : decode cL_isAct 171 = .ok (.ireturn, 1) := by decide +kernel
theorem dL_isAct_172 : decode cL_isAct 172 = .ok (.aload_n 0, 1) := by decide +kernel
theorem dL_isAct_173 : decode cL_isAct 173 = .ok (.iload 4, 2) := by decide +kernel
theorem dL_isAct_175 : decode cL_isAct 175 = .ok (.invokestatic 115, 3) := by decide +kernel
theorem dL_isAct_178 : decode cL_isAct 178 = .ok (.ireturn, 1) := by decide +kernel
theorem dL_isAct_179 : decode cL_isAct 179 = .ok (.aload_n 0, 1) := by decide +kernel
theorem dL_isAct_180 : decode cL_isAct 180 = .ok (.iload 4, 2) := by decide +kernel
theorem dL_isAct_182 : decode cL_isAct 182 = .ok (.invokestatic 118, 3) := by decide +kernel
theorem dL_isAct_185 : decode cL_isAct 185 = .ok (.ireturn, 1) := by decide +kernel
theorem dL_isAct_186 : decode cL_isAct 186 = .ok (.aload_n 0, 1) := by decide +kernel
theorem dL_isAct_187 : decode cL_isAct 187 = .ok (.iload_n 3, 1) := by decide +kernel
theorem dL_isAct_188 : decode cL_isAct 188 = .ok (.invokestatic 121, 3) := by decide +kernel
theorem dL_isAct_191 : decode cL_isAct 191 = .ok (.ireturn, 1) := by decide +kernel
theorem dL_isAct_192 : decode cL_isAct 192 = .ok (.aload_n 0, 1) := by decide +kernel
theorem dL_isAct_193 : decode cL_isAct 193 = .ok (.iload_n 3, 1) := by decide +kernel
theorem dL_isAct_194 : decode cL_isAct 194 = .ok (.iload 5, 2) := by decide +kernel
theorem dL_isAct_196 : decode cL_isAct 196 = .ok (.iload 6, 2) := by decide +kernel
theorem dL_isAct_198 : decode cL_isAct 198 = .ok (.invokestatic 124, 3) := by decide +kernel
theorem dL_isAct_201 : decode cL_isAct 201 = .ok (.ireturn, 1) := by decide +kernel
theorem dL_isAct_202 : decode cL_isAct 202 = .ok (.aload_n 0, 1) := by decide +kernel
theorem dL_isAct_203 : decode cL_isAct 203 = .ok (.invokestatic 127, 3) := by decide +kernel
theorem dL_isAct_206 : decode cL_isAct 206 = .ok (.ireturn, 1) := by decide +kernel
theorem dL_isAct_207 : decode cL_isAct 207 = .ok (.aload_n 0, 1) := by decide +kernel
theorem dL_isAct_208 : decode cL_isAct 208 = .ok (.bipush 7, 2) := by decide +kernel
theorem dL_isAct_210 : decode cL_isAct 210 = .ok (.invokevirtual 14, 3) := by decide +kernel
theorem dL_isAct_213 : decode cL_isAct 213 = .ok (.istore 7, 2) := by decide +kernel
theorem dL_isAct_215 : decode cL_isAct 215 = .ok (.iconst 1, 1) := by decide +kernel
theorem dL_isAct_216 : decode cL_isAct 216 = .ok (.aload_n 1, 1) := by decide +kernel
theorem dL_isAct_217 : decode cL_isAct 217 = .ok (.iload_n 2, 1) := by decide +kernel
theorem dL_isAct_218 : decode cL_isAct 218 = .ok (.iconst 4, 1) := by decide +kernel
theorem dL_isAct_219 : decode cL_isAct 219 = .ok (.iadd, 1) := by decide +kernel
theorem dL_isAct_220 : decode cL_isAct 220 = .ok (.bipush 40, 2) := by decide +kernel
theorem dL_isAct_222 : decode cL_isAct 222 = .ok (.invokestatic 95, 3) := by decide +kernel
theorem dL_isAct_225 : decode cL_isAct 225 = .ok (.iadd, 1) := by decide +kernel
theorem dL_isAct_226 : decode cL_isAct 226 = .ok (.istore 8, 2) := by decide +kernel
theorem dL_isAct_228 : decode cL_isAct 228 = .ok (.aload_n 0, 1) := by decide +kernel
theorem dL_isAct_229 : decode cL_isAct 229 = .ok (.iload 8, 2) := by decide +kernel
theorem dL_isAct_231 : decode cL_isAct 231 = .ok (.invokevirtual 131, 3) := by decide +kernel
theorem dL_isAct_234 : decode cL_isAct 234 = .ok (.iload 7, 2) := by decide +kernel
theorem dL_isAct_236 : decode cL_isAct 236 = .ok (.iload 8, 2) := by decide +kernel
theorem dL_isAct_238 : decode cL_isAct 238 = .ok (.iadd, 1) := by decide +kernel
theorem dL_isAct_239 : decode cL_isAct 239 = .ok (.if_icmp .ne 21, 3) := by decide +kernel
theorem dL_isAct_242 : decode cL_isAct 242 = .ok (.aload_n 0, 1) := by decide +kernel
theorem dL_isAct_243 : decode cL_isAct 243 = .ok (.bipush 7, 2) := by decide +kernel
theorem dL_isAct_245 : decode cL_isAct 245 = .ok (.invokevirtual 14, 3) := by decide +kernel
theorem dL_isAct_248 : decode cL_isAct 248 = .ok (.iload 7, 2) := by decide +kernel
theorem dL_isAct_250 : decode cL_isAct 250 = .ok (.iload 8, 2) := by decide +kernel
theorem dL_isAct_252 : decode cL_isAct 252 = .ok (.iadd, 1) := by decide +kernel
theorem dL_isAct_253 : decode cL_isAct 253 = .ok (.if_icmp .ne 7, 3) := by decide +kernel
theorem dL_isAct_256 : decode cL_isAct 256 = .ok (.iconst 1, 1) := by decide +kernel
theorem dL_isAct_257 : decode cL_isAct 257 = .ok (.goto 4, 3) := by decide +kernel
theorem dL_isAct_260 : decode cL_isAct 260 = .ok (.iconst 0, 1) := by decide +kernel
theorem dL_isAct_261 : decode cL_isAct 261 = .ok (.ireturn, 1) := by decide +kernel
theorem dL_isAct_262 : decode cL_isAct 262 = .ok (.aload_n 0, 1) := by decide +kernel
theorem dL_isAct_263 : decode cL_isAct 263 = .ok (.bipush 9, 2) := by decide +kernel
theorem dL_isAct_265 : decode cL_isAct 265 = .ok (.invokevirtual 14, 3) := by decide +kernel
theorem dL_isAct_268 : decode cL_isAct 268 = .ok (.istore 9, 2) := by decide +kernel
theorem dL_isAct_270 : decode cL_isAct 270 = .ok (.aload_n 1, 1) := by decide +kernel
theorem dL_isAct_271 : decode cL_isAct 271 = .ok (.iload_n 2, 1) := by decide +kernel
theorem dL_isAct_272 : decode cL_isAct 272 = .ok (.iconst 4, 1) := by decide +kernel
theorem dL_isAct_273 : decode cL_isAct 273 = .ok (.iadd, 1) := by decide +kernel
theorem dL_isAct_274 : decode cL_isAct 274 = .ok (.iconst 3, 1) := by decide +kernel
theorem dL_isAct_275 : decode cL_isAct 275 = .ok (.invokestatic 95, 3) := by decide +kernel
theorem dL_isAct_278 : decode cL_isAct 278 = .ok (.ifCond .gt 21, 3) := by decide +kernel
theorem dL_isAct_281 : decode cL_isAct 281 = .ok (.aload_n 0, 1) := by decide +kernel
theorem dL_isAct_282 : decode cL_isAct 282 = .ok (.invokevirtual 134, 3) := by decide +kernel
theorem dL_isAct_285 : decode cL_isAct 285 = .ok (.iload 9, 2) := by decide +kernel
theorem dL_isAct_287 : decode cL_isAct 287 = .ok (.if_icmp .ne 16, 3) := by decide +kernel
theorem dL_isAct_290 : decode cL_isAct 290 = .ok (.aload_n 0, 1) := by decide +kernel
theorem dL_isAct_291 : decode cL_isAct 291 = .ok (.bipush 9, 2) := by decide +kernel
theorem dL_isAct_293 : decode cL_isAct 293 = .ok (.invokevirtual 14, 3) := by decide +kernel
theorem dL_isAct_296 : decode cL_isAct 296 = .ok (.ifCond .ne 7, 3) := by decide +kernel
theorem dL_isAct_299 : decode cL_isAct 299 = .ok (.iconst 1, 1) := by decide +kernel
theorem dL_isAct_300 : decode cL_isAct 300 = .ok (.goto 4, 3) := by decide +kernel
theorem dL_isAct_303 : decode cL_isAct 303 = .ok (.iconst 0, 1) := by decide +kernel
theorem dL_isAct_304 : decode cL_isAct 304 = .ok (.ireturn, 1) := by decide +kernel
theorem dL_isAct_305 : decode cL_isAct 305 = .ok (.aload_n 0, 1) := by decide +kernel
theorem dL_isAct_306 : decode cL_isAct 306 = .ok (.aload_n 1, 1) := by decide +kernel
theorem dL_isAct_307 : decode cL_isAct 307 = .ok (.iload_n 2, 1) := by decide +kernel
theorem dL_isAct_308 : decode cL_isAct 308 = .ok (.iconst 1, 1) := by decide +kernel
theorem dL_isAct_309 : decode cL_isAct 309 = .ok (.iadd, 1) := by decide +kernel
theorem dL_isAct_310 : decode cL_isAct 310 = .ok (.iconst 4, 1) := by decide +kernel
theorem dL_isAct_311 : decode cL_isAct 311 = .ok (.invokestatic 95, 3) := by decide +kernel
theorem dL_isAct_314 : decode cL_isAct 314 = .ok (.aload_n 1, 1) := by decide +kernel
theorem dL_isAct_315 : decode cL_isAct 315 = .ok (.iload_n 2, 1) := by decide +kernel
theorem dL_isAct_316 : decode cL_isAct 316 = .ok (.iconst 4, 1) := by decide +kernel
theorem dL_isAct_317 : decode cL_isAct 317 = .ok (.iadd, 1) := by decide +kernel
theorem dL_isAct_318 : decode cL_isAct 318 = .ok (.iconst 4, 1) := by decide +kernel
theorem dL_isAct_319 : decode cL_isAct 319 = .ok (.invokestatic 95, 3) := by decide +kernel
theorem dL_isAct_322 : decode cL_isAct 322 = .ok (.iload 5, 2) := by decide +kernel
theorem dL_isAct_324 : decode cL_isAct 324 = .ok (.iload 6, 2) := by decide +kernel
theorem dL_isAct_326 : decode cL_isAct 326 = .ok (.invokestatic 137, 3) := by decide +kernel
theorem dL_isAct_329 : decode cL_isAct 329 = .ok (.ireturn, 1) := by decide +kernel
theorem dL_law_0 : decode cL_law 0 = .ok (.new 15, 3) := by decide +kernel
theorem dL_law_3 : decode cL_law 3 = .ok (.dup, 1) := by decide +kernel
theorem dL_law_4 : decode cL_law 4 = .ok (.invokespecial 141, 3) := by decide +kernel
theorem dL_law_7 : decode cL_law 7 = .ok (.astore_n 1, 1) := by decide +kernel
theorem dL_law_8 : decode cL_law 8 = .ok (.aload_n 1, 1) := by decide +kernel
theorem dL_law_9 : decode cL_law 9 = .ok (.iconst 0, 1) := by decide +kernel
theorem dL_law_10 : decode cL_law 10 = .ok (.iconst 3, 1) := by decide +kernel
theorem dL_law_11 : decode cL_law 11 = .ok (.aload_n 0, 1) := by decide +kernel
theorem dL_law_12 : decode cL_law 12 = .ok (.iconst 0, 1) := by decide +kernel
theorem dL_law_13 : decode cL_law 13 = .ok (.bipush 7, 2) := by decide +kernel
theorem dL_law_15 : decode cL_law 15 = .ok (.invokestatic 95, 3) := by decide +kernel
theorem dL_law_18 : decode cL_law 18 = .ok (.iadd, 1) := by decide +kernel
theorem dL_law_19 : decode cL_law 19 = .ok (.invokevirtual 142, 3) := by decide +kernel
theorem dL_law_22 : decode cL_law 22 = .ok (.pop, 1) := by decide +kernel
theorem dL_law_23 : decode cL_law 23 = .ok (.aload_n 1, 1) := by decide +kernel
theorem dL_law_24 : decode cL_law 24 = .ok (.iconst 1, 1) := by decide +kernel
theorem dL_law_25 : decode cL_law 25 = .ok (.aload_n 0, 1) := by decide +kernel
theorem dL_law_26 : decode cL_law 26 = .ok (.iconst 1, 1) := by decide +kernel
theorem dL_law_27 : decode cL_law 27 = .ok (.bipush 51, 2) := by decide +kernel
theorem dL_law_29 : decode cL_law 29 = .ok (.invokestatic 95, 3) := by decide +kernel
theorem dL_law_32 : decode cL_law 32 = .ok (.invokevirtual 142, 3) := by decide +kernel
theorem dL_law_35 : decode cL_law 35 = .ok (.pop, 1) := by decide +kernel
theorem dL_law_36 : decode cL_law 36 = .ok (.aload_n 1, 1) := by decide +kernel
theorem dL_law_37 : decode cL_law 37 = .ok (.iconst 2, 1) := by decide +kernel
theorem dL_law_38 : decode cL_law 38 = .ok (.bipush 40, 2) := by decide +kernel
theorem dL_law_40 : decode cL_law 40 = .ok (.aload_n 0, 1) := by decide +kernel
theorem dL_law_41 : decode cL_law 41 = .ok (.iconst 2, 1) := by decide +kernel
theorem dL_law_42 : decode cL_law 42 = .ok (.bipush 51, 2) := by decide +kernel
theorem dL_law_44 : decode cL_law 44 = .ok (.invokestatic 95, 3) := by decide +kernel
theorem dL_law_47 : decode cL_law 47 = .ok (.iadd, 1) := by decide +kernel
theorem dL_law_48 : decode cL_law 48 = .ok (.invokevirtual 142, 3) := by decide +kernel
theorem dL_law_51 : decode cL_law 51 = .ok (.pop, 1) := by decide +kernel
theorem dL_law_52 : decode cL_law 52 = .ok (.aload_n 1, 1) := by decide +kernel
theorem dL_law_53 : decode cL_law 53 = .ok (.bipush 100, 2) := by decide +kernel
theorem dL_law_55 : decode cL_law 55 = .ok (.aload_n 0, 1) := by decide +kernel
theorem dL_law_56 : decode cL_law 56 = .ok (.iconst 3, 1) := by decide +kernel
theorem dL_law_57 : decode cL_law 57 = .ok (.sipush 300, 3) := by decide +kernel
theorem dL_law_60 : decode cL_law 60 = .ok (.invokestatic 95, 3) := by decide +kernel
theorem dL_law_63 : decode cL_law 63 = .ok (.iadd, 1) := by decide +kernel
theorem dL_law_64 : decode cL_law 64 = .ok (.invokevirtual 131, 3) := by decide +kernel
theorem dL_law_67 : decode cL_law 67 = .ok (.pop, 1) := by decide +kernel
theorem dL_law_68 : decode cL_law 68 = .ok (.iconst 0, 1) := by decide +kernel
theorem dL_law_69 : decode cL_law 69 = .ok (.istore_n 2, 1) := by decide +kernel
theorem dL_law_70 : decode cL_law 70 = .ok (.iload_n 2, 1) := by decide +kernel
theorem dL_law_71 : decode cL_law 71 = .ok (.iconst 5, 1) := by decide +kernel
theorem dL_law_72 : decode cL_law 72 = .ok (.if_icmp .ge 45, 3) := by decide +kernel
theorem dL_law_75 : decode cL_law 75 = .ok (.aload_n 1, 1) := by decide +kernel
theorem dL_law_76 : decode cL_law 76 = .ok (.iload_n 2, 1) := by decide +kernel
theorem dL_law_77 : decode cL_law 77 = .ok (.iconst 4, 1) := by decide +kernel
theorem dL_law_78 : decode cL_law 78 = .ok (.irem, 1) := by decide +kernel
theorem dL_law_79 : decode cL_law 79 = .ok (.iload_n 2, 1) := by decide +kernel
theorem dL_law_80 : decode cL_law 80 = .ok (.iconst 1, 1) := by decide +kernel
theorem dL_law_81 : decode cL_law 81 = .ok (.iadd, 1) := by decide +kernel
theorem dL_law_82 : decode cL_law 82 = .ok (.iconst 4, 1) := by decide +kernel
theorem dL_law_83 : decode cL_law 83 = .ok (.irem, 1) := by decide +kernel
theorem dL_law_84 : decode cL_law 84 = .ok (.aload_n 0, 1) := by decide +kernel
theorem dL_law_85 : decode cL_law 85 = .ok (.iconst 4, 1) := by decide +kernel
theorem dL_law_86 : decode cL_law 86 = .ok (.iconst 3, 1) := by decide +kernel
theorem dL_law_87 : decode cL_law 87 = .ok (.iload_n 2, 1) := by decide +kernel
theorem dL_law_88 : decode cL_law 88 = .ok (.imul, 1) := by decide +kernel
theorem dL_law_89 : decode cL_law 89 = .ok (.iadd, 1) := by decide +kernel
theorem dL_law_90 : decode cL_law 90 = .ok (.invokestatic 99, 3) := by decide +kernel
theorem dL_law_93 : decode cL_law 93 = .ok (.aload_n 0, 1) := by decide +kernel
theorem dL_law_94 : decode cL_law 94 = .ok (.bipush 19, 2) := by decide +kernel
theorem dL_law_96 : decode cL_law 96 = .ok (.iconst 3, 1) := by decide +kernel
theorem dL_law_97 : decode cL_law 97 = .ok (.iload_n 2, 1) := by decide +kernel
theorem dL_law_98 : decode cL_law 98 = .ok (.imul, 1) := by decide +kernel
theorem dL_law_99 : decode cL_law 99 = .ok (.iadd, 1) := by decide +kernel
theorem dL_law_100 : decode cL_law 100 = .ok (.invokestatic 99, 3) := by decide +kernel
theorem dL_law_103 : decode cL_law 103 = .ok (.invokestatic 137, 3) := by decide +kernel
theorem dL_law_106 : decode cL_law 106 = .ok (.ifCond .ne 5, 3) := by decide +kernel
theorem dL_law_109 : decode cL_law 109 = .ok (.iconst 0, 1) := by decide +kernel
theorem dL_law_110 : decode cL_law 110 = .ok (.ireturn, 1) := by decide +kernel
theorem dL_law_111 : decode cL_law 111 = .ok (.iinc 2 1, 3) := by decide +kernel
theorem dL_law_114 : decode cL_law 114 = .ok (.goto (-44), 3) := by decide +kernel
theorem dL_law_117 : decode cL_law 117 = .ok (.iconst 0, 1) := by decide +kernel
theorem dL_law_118 : decode cL_law 118 = .ok (.istore_n 2, 1) := by decide +kernel
theorem dL_law_119 : decode cL_law 119 = .ok (.iload_n 2, 1) := by decide +kernel
theorem dL_law_120 : decode cL_law 120 = .ok (.iconst 4, 1) := by decide +kernel
theorem dL_law_121 : decode cL_law 121 = .ok (.if_icmp .ge 37, 3) := by decide +kernel
theorem dL_law_124 : decode cL_law 124 = .ok (.aload_n 1, 1) := by decide +kernel
theorem dL_law_125 : decode cL_law 125 = .ok (.aload_n 0, 1) := by decide +kernel
theorem dL_law_126 : decode cL_law 126 = .ok (.bipush 34, 2) := by decide +kernel
theorem dL_law_128 : decode cL_law 128 = .ok (.iconst 3, 1) := by decide +kernel
theorem dL_law_129 : decode cL_law 129 = .ok (.iload_n 2, 1) := by decide +kernel
theorem dL_law_130 : decode cL_law 130 = .ok (.imul, 1) := by decide +kernel
theorem dL_law_131 : decode cL_law 131 = .ok (.iadd, 1) := by decide +kernel
theorem dL_law_132 : decode cL_law 132 = .ok (.invokestatic 99, 3) := by decide +kernel
theorem dL_law_135 : decode cL_law 135 = .ok (.aload_n 0, 1) := by decide +kernel
theorem dL_law_136 : decode cL_law 136 = .ok (.bipush 46, 2) := by decide +kernel
theorem dL_law_138 : decode cL_law 138 = .ok (.iload_n 2, 1) := by decide +kernel
theorem dL_law_139 : decode cL_law 139 = .ok (.iadd, 1) := by decide +kernel
theorem dL_law_140 : decode cL_law 140 = .ok (.iconst 3, 1) := by decide +kernel
theorem dL_law_141 : decode cL_law 141 = .ok (.invokestatic 95, 3) := by decide +kernel
theorem dL_law_144 : decode cL_law 144 = .ok (.invokestatic 107, 3) := by decide +kernel
theorem dL_law_147 : decode cL_law 147 = .ok (.ifCond .ne 5, 3) := by decide +kernel
theorem dL_law_150 : decode cL_law 150 = .ok (.iconst 0, 1) := by decide +kernel
theorem dL_law_151 : decode cL_law 151 = .ok (.ireturn, 1) := by decide +kernel
theorem dL_law_152 : decode cL_law 152 = .ok (.iinc 2 1, 3) := by decide +kernel
theorem dL_law_155 : decode cL_law 155 = .ok (.goto (-36), 3) := by decide +kernel
theorem dL_law_158 : decode cL_law 158 = .ok (.iconst 0, 1) := by decide +kernel
theorem dL_law_159 : decode cL_law 159 = .ok (.istore_n 2, 1) := by decide +kernel
theorem dL_law_160 : decode cL_law 160 = .ok (.iload_n 2, 1) := by decide +kernel
theorem dL_law_161 : decode cL_law 161 = .ok (.bipush 64, 2) := by decide +kernel
theorem dL_law_163 : decode cL_law 163 = .ok (.if_icmp .ge 33, 3) := by decide +kernel
theorem dL_law_166 : decode cL_law 166 = .ok (.aload_n 1, 1) := by decide +kernel
theorem dL_law_167 : decode cL_law 167 = .ok (.aload_n 0, 1) := by decide +kernel
theorem dL_law_168 : decode cL_law 168 = .ok (.bipush 50, 2) := by decide +kernel
theorem dL_law_170 : decode cL_law 170 = .ok (.bipush 6, 2) := by decide +kernel
theorem dL_law_172 : decode cL_law 172 = .ok (.iload_n 2, 1) := by decide +kernel
theorem dL_law_173 : decode cL_law 173 = .ok (.imul, 1) := by decide +kernel
theorem dL_law_174 : decode cL_law 174 = .ok (.iadd, 1) := by decide +kernel
theorem dL_law_175 : decode cL_law 175 = .ok (.invokestatic 145, 3) := by decide +kernel
theorem dL_law_178 : decode cL_law 178 = .ok (.ifCond .eq 10, 3) := by decide +kernel
theorem dL_law_181 : decode cL_law 181 = .ok (.aload_n 1, 1) := by decide +kernel
theorem dL_law_182 : decode cL_law 182 = .ok (.invokestatic 149, 3) := by decide +kernel
theorem dL_law_185 : decode cL_law 185 = .ok (.ifCond .ne 5, 3) := by decide +kernel
theorem dL_law_188 : decode cL_law 188 = .ok (.iconst 0, 1) := by decide +kernel
theorem dL_law_189 : decode cL_law 189 = .ok (.ireturn, 1) := by decide +kernel
theorem dL_law_190 : decode cL_law 190 = .ok (.iinc 2 1, 3) := by decide +kernel
theorem dL_law_193 : decode cL_law 193 = .ok (.goto (-33), 3) := by decide +kernel
theorem dL_law_196 : decode cL_law 196 = .ok (.iconst 1, 1) := by decide +kernel
theorem dL_law_197 : decode cL_law 197 = .ok (.ireturn, 1) := by decide +kernel
abbrev vwCl : List vw_C := [(RX0, TX0, 5), (RX1, TX1, 2), (RX2, TX2, 11), (RX3, TX3, 3), (RX4, TX4, 4), (RX5, TX5, 4), (RX6, TX6, 5), (RX7, TX7, 4), (RX8, TX8, 7), (RX10, TX10, 6), (RX11, TX11, 9)]
