def RX0 : String := "FireNet$Camera"
def TX0 : u_T := fun k => match k with
  | 0 => ("FireNet$Camera", "x", "I", true)
  | 1 => ("FireNet$Camera", "y", "I", true)
  | _ => ("FireNet$Camera", "wrong", "I", false)
def tyX0 : Nat → FieldType := fun k => match k with
  | 0 => .int
  | 1 => .int
  | _ => .int
abbrev wsX00 : List Cond := u_ws RX0 TX0 3
theorem nmX0 : ∀ a, a < 3 → ∀ b, b < 3 → a ≠ b → (TX0 a).2.1 ≠ (TX0 b).2.1 := by decide +kernel
theorem tyX0_ok : ∀ k, k < 3 → parseFieldDescriptor (TX0 k).2.2.1 = some (tyX0 k) := by decide +kernel
abbrev cX0_init : ByteArray := prog_2_method_1_code
def yX0_init : MethodName := ⟨RX0, "<init>", "(III)V"⟩
def RX1 : String := "FireNet$Cloud"
def TX1 : u_T := fun k => match k with
  | _ => ("", "", "", false)
def tyX1 : Nat → FieldType := fun k => match k with
  | _ => .int
abbrev wsX10 : List Cond := u_ws RX1 TX1 0
theorem nmX1 : ∀ a, a < 0 → ∀ b, b < 0 → a ≠ b → (TX1 a).2.1 ≠ (TX1 b).2.1 := by decide +kernel
theorem tyX1_ok : ∀ k, k < 0 → parseFieldDescriptor (TX1 k).2.2.1 = some (tyX1 k) := by decide +kernel
def RX2 : String := "FireNet$Crossing"
def TX2 : u_T := fun k => match k with
  | 0 => ("FireNet$Crossing", "x", "J", false)
  | _ => ("FireNet$Crossing", "y", "J", false)
def tyX2 : Nat → FieldType := fun k => match k with
  | 0 => .long
  | _ => .long
abbrev wsX20 : List Cond := u_ws RX2 TX2 2
theorem nmX2 : ∀ a, a < 2 → ∀ b, b < 2 → a ≠ b → (TX2 a).2.1 ≠ (TX2 b).2.1 := by decide +kernel
theorem tyX2_ok : ∀ k, k < 2 → parseFieldDescriptor (TX2 k).2.2.1 = some (tyX2 k) := by decide +kernel
abbrev cX2_init : ByteArray := prog_4_method_1_code
def yX2_init : MethodName := ⟨RX2, "<init>", "()V"⟩
abbrev cX2_isOfBegins : ByteArray := prog_4_method_2_code
def yX2_isOfBegins : MethodName := ⟨RX2, "isOfBegins", "(LFireNet$Sighting;LFireNet$Sighting;)Z"⟩
abbrev cX2_isOfEnds : ByteArray := prog_4_method_3_code
def yX2_isOfEnds : MethodName := ⟨RX2, "isOfEnds", "(LFireNet$Sighting;LFireNet$Sighting;)Z"⟩
abbrev cX2_isOf : ByteArray := prog_4_method_4_code
def yX2_isOf : MethodName := ⟨RX2, "isOf", "(LFireNet$Camera;IILFireNet$Camera;II)Z"⟩
def RX3 : String := "FireNet$Field"
def TX3 : u_T := fun k => match k with
  | 0 => ("FireNet$Field", "endX", "J", false)
  | 1 => ("FireNet$Field", "endY", "J", false)
  | 2 => ("FireNet$Field", "windX", "I", false)
  | _ => ("FireNet$Field", "windY", "I", false)
def tyX3 : Nat → FieldType := fun k => match k with
  | 0 => .long
  | 1 => .long
  | 2 => .int
  | _ => .int
abbrev wsX30 : List Cond := u_ws RX3 TX3 4
theorem nmX3 : ∀ a, a < 4 → ∀ b, b < 4 → a ≠ b → (TX3 a).2.1 ≠ (TX3 b).2.1 := by decide +kernel
theorem tyX3_ok : ∀ k, k < 4 → parseFieldDescriptor (TX3 k).2.2.1 = some (tyX3 k) := by decide +kernel
abbrev cX3_init : ByteArray := prog_5_method_1_code
def yX3_init : MethodName := ⟨RX3, "<init>", "()V"⟩
abbrev cX3_scatter : ByteArray := prog_5_method_2_code
def yX3_scatter : MethodName := ⟨RX3, "scatter", "(LFireNet$Fireball;II)V"⟩
abbrev cX3_pieceX : ByteArray := prog_5_method_3_code
def yX3_pieceX : MethodName := ⟨RX3, "pieceX", "(I)J"⟩
abbrev cX3_pieceY : ByteArray := prog_5_method_4_code
def yX3_pieceY : MethodName := ⟨RX3, "pieceY", "(I)J"⟩
abbrev cX3_weight : ByteArray := prog_5_method_5_code
def yX3_weight : MethodName := ⟨RX3, "weight", "(II)J"⟩
abbrev cX3_weightOfGround : ByteArray := prog_5_method_6_code
def yX3_weightOfGround : MethodName := ⟨RX3, "weightOfGround", "()J"⟩
abbrev cX3_cellsWithin : ByteArray := prog_5_method_7_code
def yX3_cellsWithin : MethodName := ⟨RX3, "cellsWithin", "(JI)J"⟩
def RX4 : String := "FireNet$Fireball"
def TX4 : u_T := fun k => match k with
  | 0 => ("FireNet$Fireball", "night", "I", false)
  | 1 => ("FireNet$Fireball", "sightings", "I", false)
  | 2 => ("FireNet$Fireball", "pairs", "I", false)
  | 3 => ("FireNet$Fireball", "lengths", "J", false)
  | 4 => ("FireNet$Fireball", "lightTimesLength", "J", false)
  | 5 => ("FireNet$Fireball", "greatestLight", "J", false)
  | 6 => ("FireNet$Fireball", "beginX", "J", false)
  | 7 => ("FireNet$Fireball", "beginY", "J", false)
  | 8 => ("FireNet$Fireball", "endX", "J", false)
  | 9 => ("FireNet$Fireball", "endY", "J", false)
  | 10 => ("FireNet$Fireball", "speed", "J", false)
  | 11 => ("FireNet$Fireball", "massByLight", "J", false)
  | _ => ("FireNet$Fireball", "massBySpeed", "J", false)
def tyX4 : Nat → FieldType := fun k => match k with
  | 0 => .int
  | 1 => .int
  | 2 => .int
  | 3 => .long
  | 4 => .long
  | 5 => .long
  | 6 => .long
  | 7 => .long
  | 8 => .long
  | 9 => .long
  | 10 => .long
  | 11 => .long
  | _ => .long
abbrev wsX40 : List Cond := u_ws RX4 TX4 13
theorem nmX4 : ∀ a, a < 13 → ∀ b, b < 13 → a ≠ b → (TX4 a).2.1 ≠ (TX4 b).2.1 := by decide +kernel
theorem tyX4_ok : ∀ k, k < 13 → parseFieldDescriptor (TX4 k).2.2.1 = some (tyX4 k) := by decide +kernel
abbrev cX4_init : ByteArray := prog_6_method_1_code
def yX4_init : MethodName := ⟨RX4, "<init>", "()V"⟩
abbrev cX4_exists : ByteArray := prog_6_method_2_code
def yX4_exists : MethodName := ⟨RX4, "exists", "()Z"⟩
abbrev cX4_clear : ByteArray := prog_6_method_3_code
def yX4_clear : MethodName := ⟨RX4, "clear", "()V"⟩
abbrev cX4_add : ByteArray := prog_6_method_4_code
def yX4_add : MethodName := ⟨RX4, "add", "(LFireNet$Sighting;)V"⟩
abbrev cX4_addPair : ByteArray := prog_6_method_5_code
def yX4_addPair : MethodName := ⟨RX4, "addPair", "(LFireNet$Crossing;LFireNet$Crossing;)V"⟩
abbrev cX4_settle : ByteArray := prog_6_method_6_code
def yX4_settle : MethodName := ⟨RX4, "settle", "()V"⟩
abbrev cX4_flightX : ByteArray := prog_6_method_7_code
def yX4_flightX : MethodName := ⟨RX4, "flightX", "()J"⟩
abbrev cX4_flightY : ByteArray := prog_6_method_8_code
def yX4_flightY : MethodName := ⟨RX4, "flightY", "()J"⟩
abbrev cX4_number : ByteArray := prog_6_method_9_code
def yX4_number : MethodName := ⟨RX4, "number", "(I)J"⟩
def RX5 : String := "FireNet$Rule"
def TX5 : u_T := fun k => match k with
  | _ => ("", "", "", false)
def tyX5 : Nat → FieldType := fun k => match k with
  | _ => .int
abbrev wsX50 : List Cond := u_ws RX5 TX5 0
theorem nmX5 : ∀ a, a < 0 → ∀ b, b < 0 → a ≠ b → (TX5 a).2.1 ≠ (TX5 b).2.1 := by decide +kernel
theorem tyX5_ok : ∀ k, k < 0 → parseFieldDescriptor (TX5 k).2.2.1 = some (tyX5 k) := by decide +kernel
def RX6 : String := "FireNet$Sighting"
def TX6 : u_T := fun k => match k with
  | 0 => ("FireNet$Sighting", "camera", "LFireNet$Camera;", true)
  | 1 => ("FireNet$Sighting", "night", "I", true)
  | 2 => ("FireNet$Sighting", "second", "I", true)
  | 3 => ("FireNet$Sighting", "length", "I", true)
  | 4 => ("FireNet$Sighting", "light", "I", true)
  | 5 => ("FireNet$Sighting", "beginX", "I", false)
  | 6 => ("FireNet$Sighting", "beginY", "I", false)
  | 7 => ("FireNet$Sighting", "endX", "I", false)
  | 8 => ("FireNet$Sighting", "endY", "I", false)
  | 9 => ("FireNet$Sighting", "joined", "J", false)
  | 10 => ("FireNet$Sighting", "fireball", "I", false)
  | _ => ("FireNet$Sighting", "lowest", "I", false)
def tyX6 : Nat → FieldType := fun k => match k with
  | 0 => .object "FireNet$Camera"
  | 1 => .int
  | 2 => .int
  | 3 => .int
  | 4 => .int
  | 5 => .int
  | 6 => .int
  | 7 => .int
  | 8 => .int
  | 9 => .long
  | 10 => .int
  | _ => .int
abbrev wsX60 : List Cond := u_ws RX6 TX6 12
theorem nmX6 : ∀ a, a < 12 → ∀ b, b < 12 → a ≠ b → (TX6 a).2.1 ≠ (TX6 b).2.1 := by decide +kernel
theorem tyX6_ok : ∀ k, k < 12 → parseFieldDescriptor (TX6 k).2.2.1 = some (tyX6 k) := by decide +kernel
abbrev cX6_init : ByteArray := prog_8_method_1_code
def yX6_init : MethodName := ⟨RX6, "<init>", "(LFireNet$Camera;IIII)V"⟩
abbrev cX6_counts : ByteArray := prog_8_method_2_code
def yX6_counts : MethodName := ⟨RX6, "counts", "()Z"⟩
abbrev cX6_rightSecond : ByteArray := prog_8_method_3_code
def yX6_rightSecond : MethodName := ⟨RX6, "rightSecond", "()I"⟩
abbrev cX6_mayJoin : ByteArray := prog_8_method_4_code
def yX6_mayJoin : MethodName := ⟨RX6, "mayJoin", "(LFireNet$Sighting;)Z"⟩
def RX7 : String := "FireNet$Stone"
def TX7 : u_T := fun k => match k with
  | 0 => ("FireNet$Stone", "number", "I", true)
  | 1 => ("FireNet$Stone", "x", "I", true)
  | 2 => ("FireNet$Stone", "y", "I", true)
  | 3 => ("FireNet$Stone", "night", "I", true)
  | 4 => ("FireNet$Stone", "origin", "LFireNet$Stone;", true)
  | 5 => ("FireNet$Stone", "grams", "I", false)
  | 6 => ("FireNet$Stone", "lost", "I", false)
  | 7 => ("FireNet$Stone", "owner", "I", false)
  | 8 => ("FireNet$Stone", "where", "I", false)
  | 9 => ("FireNet$Stone", "laboratory", "I", false)
  | 10 => ("FireNet$Stone", "iron", "I", false)
  | 11 => ("FireNet$Stone", "texture", "I", false)
  | 12 => ("FireNet$Stone", "shock", "I", false)
  | 13 => ("FireNet$Stone", "place", "I", false)
  | 14 => ("FireNet$Stone", "numberOfName", "I", false)
  | _ => ("FireNet$Stone", "doubtful", "Z", false)
def tyX7 : Nat → FieldType := fun k => match k with
  | 0 => .int
  | 1 => .int
  | 2 => .int
  | 3 => .int
  | 4 => .object "FireNet$Stone"
  | 5 => .int
  | 6 => .int
  | 7 => .int
  | 8 => .int
  | 9 => .int
  | 10 => .int
  | 11 => .int
  | 12 => .int
  | 13 => .int
  | 14 => .int
  | _ => .boolean
abbrev wsX70 : List Cond := u_ws RX7 TX7 16
theorem nmX7 : ∀ a, a < 16 → ∀ b, b < 16 → a ≠ b → (TX7 a).2.1 ≠ (TX7 b).2.1 := by decide +kernel
theorem tyX7_ok : ∀ k, k < 16 → parseFieldDescriptor (TX7 k).2.2.1 = some (tyX7 k) := by decide +kernel
abbrev cX7_init : ByteArray := prog_9_method_1_code
def yX7_init : MethodName := ⟨RX7, "<init>", "(IIIIIILFireNet$Stone;)V"⟩
def RX8 : String := "FireNet$Walk"
def TX8 : u_T := fun k => match k with
  | 0 => ("FireNet$Walk", "fireball", "I", true)
  | 1 => ("FireNet$Walk", "x", "I", true)
  | 2 => ("FireNet$Walk", "y", "I", true)
  | 3 => ("FireNet$Walk", "skill", "I", true)
  | _ => ("FireNet$Walk", "first", "Z", true)
def tyX8 : Nat → FieldType := fun k => match k with
  | 0 => .int
  | 1 => .int
  | 2 => .int
  | 3 => .int
  | _ => .boolean
abbrev wsX80 : List Cond := u_ws RX8 TX8 5
theorem nmX8 : ∀ a, a < 5 → ∀ b, b < 5 → a ≠ b → (TX8 a).2.1 ≠ (TX8 b).2.1 := by decide +kernel
theorem tyX8_ok : ∀ k, k < 5 → parseFieldDescriptor (TX8 k).2.2.1 = some (tyX8 k) := by decide +kernel
abbrev cX8_init : ByteArray := prog_10_method_1_code
def yX8_init : MethodName := ⟨RX8, "<init>", "(IIIIZ)V"⟩
abbrev cX8_isThrough : ByteArray := prog_10_method_2_code
def yX8_isThrough : MethodName := ⟨RX8, "isThrough", "(III)Z"⟩
def RX9 : String := "FireNet$Wind"
def TX9 : u_T := fun k => match k with
  | 0 => ("FireNet$Wind", "night", "I", true)
  | 1 => ("FireNet$Wind", "x", "I", false)
  | _ => ("FireNet$Wind", "y", "I", false)
def tyX9 : Nat → FieldType := fun k => match k with
  | 0 => .int
  | 1 => .int
  | _ => .int
abbrev wsX90 : List Cond := u_ws RX9 TX9 3
theorem nmX9 : ∀ a, a < 3 → ∀ b, b < 3 → a ≠ b → (TX9 a).2.1 ≠ (TX9 b).2.1 := by decide +kernel
theorem tyX9_ok : ∀ k, k < 3 → parseFieldDescriptor (TX9 k).2.2.1 = some (tyX9 k) := by decide +kernel
abbrev cX9_init : ByteArray := prog_11_method_1_code
def yX9_init : MethodName := ⟨RX9, "<init>", "(I)V"⟩
def RX10 : String := "FireNet"
def TX10 : u_T := fun k => match k with
  | 0 => ("FireNet", "cameras", "Ljava/util/List;", true)
  | 1 => ("FireNet", "clouds", "Ljava/util/List;", true)
  | 2 => ("FireNet", "sightings", "Ljava/util/List;", true)
  | 3 => ("FireNet", "begun", "LFireNet$Sighting;", false)
  | 4 => ("FireNet", "rows", "Ljava/util/List;", true)
  | 5 => ("FireNet", "begins", "LFireNet$Crossing;", true)
  | 6 => ("FireNet", "ends", "LFireNet$Crossing;", true)
  | 7 => ("FireNet", "winds", "Ljava/util/List;", true)
  | 8 => ("FireNet", "walks", "Ljava/util/List;", true)
  | 9 => ("FireNet", "field", "LFireNet$Field;", true)
  | 10 => ("FireNet", "stones", "Ljava/util/List;", true)
  | 11 => ("FireNet", "rules", "[LFireNet$Rule;", true)
  | 12 => ("FireNet", "laws", "[I", true)
  | _ => ("FireNet", "namesOfPlaces", "[I", true)
def tyX10 : Nat → FieldType := fun k => match k with
  | 0 => .object "java/util/List"
  | 1 => .object "java/util/List"
  | 2 => .object "java/util/List"
  | 3 => .object "FireNet$Sighting"
  | 4 => .object "java/util/List"
  | 5 => .object "FireNet$Crossing"
  | 6 => .object "FireNet$Crossing"
  | 7 => .object "java/util/List"
  | 8 => .object "java/util/List"
  | 9 => .object "FireNet$Field"
  | 10 => .object "java/util/List"
  | 11 => .array (.object "FireNet$Rule")
  | 12 => .array .int
  | _ => .array .int
abbrev wsX100 : List Cond := u_ws RX10 TX10 14
theorem nmX10 : ∀ a, a < 14 → ∀ b, b < 14 → a ≠ b → (TX10 a).2.1 ≠ (TX10 b).2.1 := by decide +kernel
theorem tyX10_ok : ∀ k, k < 14 → parseFieldDescriptor (TX10 k).2.2.1 = some (tyX10 k) := by decide +kernel
abbrev cX10_init : ByteArray := prog_1_method_1_code
def yX10_init : MethodName := ⟨RX10, "<init>", "()V"⟩
abbrev cX10_camera : ByteArray := prog_1_method_2_code
def yX10_camera : MethodName := ⟨RX10, "camera", "(III)I"⟩
abbrev cX10_clock : ByteArray := prog_1_method_3_code
def yX10_clock : MethodName := ⟨RX10, "clock", "(II)I"⟩
abbrev cX10_begin : ByteArray := prog_1_method_5_code
def yX10_begin : MethodName := ⟨RX10, "begin", "(IIIII)V"⟩
abbrev cX10_end : ByteArray := prog_1_method_6_code
def yX10_end : MethodName := ⟨RX10, "end", "(IIII)I"⟩
abbrev cX10_fireball : ByteArray := prog_1_method_7_code
def yX10_fireball : MethodName := ⟨RX10, "fireball", "(I)I"⟩
abbrev cX10_fireballAnew : ByteArray := prog_1_method_8_code
def yX10_fireballAnew : MethodName := ⟨RX10, "fireballAnew", "(I)I"⟩
abbrev cX10_fireballs : ByteArray := prog_1_method_9_code
def yX10_fireballs : MethodName := ⟨RX10, "fireballs", "(I)I"⟩
abbrev cX10_told : ByteArray := prog_1_method_10_code
def yX10_told : MethodName := ⟨RX10, "told", "(II)J"⟩
abbrev cX10_wind : ByteArray := prog_1_method_13_code
def yX10_wind : MethodName := ⟨RX10, "wind", "(III)V"⟩
abbrev cX10_walk : ByteArray := prog_1_method_14_code
def yX10_walk : MethodName := ⟨RX10, "walk", "(IIII)J"⟩
abbrev cX10_chance : ByteArray := prog_1_method_15_code
def yX10_chance : MethodName := ⟨RX10, "chance", "(III)J"⟩
abbrev cX10_find : ByteArray := prog_1_method_16_code
def yX10_find : MethodName := ⟨RX10, "find", "(IIIII)I"⟩
abbrev cX10_fall : ByteArray := prog_1_method_17_code
def yX10_fall : MethodName := ⟨RX10, "fall", "(I)I"⟩
abbrev cX10_requireRange : ByteArray := prog_1_method_31_code
def yX10_requireRange : MethodName := ⟨RX10, "requireRange", "(III)V"⟩
abbrev cX10_requireCell : ByteArray := prog_1_method_32_code
def yX10_requireCell : MethodName := ⟨RX10, "requireCell", "(II)V"⟩
abbrev cX10_requireNight : ByteArray := prog_1_method_33_code
def yX10_requireNight : MethodName := ⟨RX10, "requireNight", "(I)V"⟩
abbrev cX10_requireDirection : ByteArray := prog_1_method_34_code
def yX10_requireDirection : MethodName := ⟨RX10, "requireDirection", "(II)V"⟩
abbrev cX10_existingCamera : ByteArray := prog_1_method_35_code
def yX10_existingCamera : MethodName := ⟨RX10, "existingCamera", "(I)LFireNet$Camera;"⟩
abbrev cX10_existingSighting : ByteArray := prog_1_method_36_code
def yX10_existingSighting : MethodName := ⟨RX10, "existingSighting", "(I)LFireNet$Sighting;"⟩
abbrev cX10_existingFireball : ByteArray := prog_1_method_37_code
def yX10_existingFireball : MethodName := ⟨RX10, "existingFireball", "(I)LFireNet$Fireball;"⟩
abbrev cX10_existingStone : ByteArray := prog_1_method_38_code
def yX10_existingStone : MethodName := ⟨RX10, "existingStone", "(I)LFireNet$Stone;"⟩
abbrev cX10_cloudyNights : ByteArray := prog_1_method_39_code
def yX10_cloudyNights : MethodName := ⟨RX10, "cloudyNights", "(LFireNet$Camera;II)I"⟩
abbrev cX10_isCloudy : ByteArray := prog_1_method_40_code
def yX10_isCloudy : MethodName := ⟨RX10, "isCloudy", "(LFireNet$Camera;I)Z"⟩
abbrev cX10_gatherFireballs : ByteArray := prog_1_method_42_code
def yX10_gatherFireballs : MethodName := ⟨RX10, "gatherFireballs", "()V"⟩
abbrev cX10_joinSightings : ByteArray := prog_1_method_43_code
def yX10_joinSightings : MethodName := ⟨RX10, "joinSightings", "()V"⟩
abbrev cX10_doJoin : ByteArray := prog_1_method_44_code
def yX10_doJoin : MethodName := ⟨RX10, "doJoin", "(LFireNet$Sighting;LFireNet$Sighting;)Z"⟩
abbrev cX10_gatherInto : ByteArray := prog_1_method_45_code
def yX10_gatherInto : MethodName := ⟨RX10, "gatherInto", "(LFireNet$Fireball;I)V"⟩
abbrev cX10_addPlaces : ByteArray := prog_1_method_46_code
def yX10_addPlaces : MethodName := ⟨RX10, "addPlaces", "(LFireNet$Fireball;LFireNet$Sighting;I)V"⟩
abbrev cX10_groupOf : ByteArray := prog_1_method_47_code
def yX10_groupOf : MethodName := ⟨RX10, "groupOf", "(I)J"⟩
abbrev cX10_holds : ByteArray := prog_1_method_48_code
def yX10_holds : MethodName := ⟨RX10, "holds", "(JI)Z"⟩
abbrev cX10_spreadLowest : ByteArray := prog_1_method_49_code
def yX10_spreadLowest : MethodName := ⟨RX10, "spreadLowest", "()Z"⟩
abbrev cX10_countFireballs : ByteArray := prog_1_method_50_code
def yX10_countFireballs : MethodName := ⟨RX10, "countFireballs", "(III)I"⟩
abbrev cX10_windOf : ByteArray := prog_1_method_51_code
def yX10_windOf : MethodName := ⟨RX10, "windOf", "(I)LFireNet$Wind;"⟩
abbrev cX10_wasWalked : ByteArray := prog_1_method_52_code
def yX10_wasWalked : MethodName := ⟨RX10, "wasWalked", "(III)Z"⟩
abbrev cX10_chanceIn : ByteArray := prog_1_method_53_code
def yX10_chanceIn : MethodName := ⟨RX10, "chanceIn", "(LFireNet$Fireball;III)J"⟩
abbrev cX10_weightLeft : ByteArray := prog_1_method_54_code
def yX10_weightLeft : MethodName := ⟨RX10, "weightLeft", "(JIII)J"⟩
abbrev cX10_weightOfGround : ByteArray := prog_1_method_55_code
def yX10_weightOfGround : MethodName := ⟨RX10, "weightOfGround", "(I)J"⟩
abbrev cX10_fallOf : ByteArray := prog_1_method_56_code
def yX10_fallOf : MethodName := ⟨RX10, "fallOf", "(LFireNet$Stone;)I"⟩
abbrev cX10_landOf : ByteArray := prog_1_method_59_code
def yX10_landOf : MethodName := ⟨RX10, "landOf", "(II)I"⟩
abbrev cX10_lawIn : ByteArray := prog_1_method_60_code
def yX10_lawIn : MethodName := ⟨RX10, "lawIn", "(I)I"⟩
abbrev cX10_divided : ByteArray := prog_1_method_62_code
def yX10_divided : MethodName := ⟨RX10, "divided", "(JJ)J"⟩
abbrev cX10_rootOf : ByteArray := prog_1_method_63_code
def yX10_rootOf : MethodName := ⟨RX10, "rootOf", "(J)J"⟩
def RX11 : String := "FireNetModel"
def TX11 : u_T := fun k => match k with
  | _ => ("", "", "", false)
def tyX11 : Nat → FieldType := fun k => match k with
  | _ => .int
abbrev wsX110 : List Cond := u_ws RX11 TX11 0
theorem nmX11 : ∀ a, a < 0 → ∀ b, b < 0 → a ≠ b → (TX11 a).2.1 ≠ (TX11 b).2.1 := by decide +kernel
theorem tyX11_ok : ∀ k, k < 0 → parseFieldDescriptor (TX11 k).2.2.1 = some (tyX11 k) := by decide +kernel
def RJx145de : String := "java/io/Serializable"
def TJx145de : u_T := fun k => match k with
  | _ => ("", "", "", false)
def tyJx145de : Nat → FieldType := fun k => match k with
  | _ => .int
abbrev wsJx145de0 : List Cond := u_ws RJx145de TJx145de 0
theorem nmJx145de : ∀ a, a < 0 → ∀ b, b < 0 → a ≠ b → (TJx145de a).2.1 ≠ (TJx145de b).2.1 := by decide +kernel
theorem tyJx145de_ok : ∀ k, k < 0 → parseFieldDescriptor (TJx145de k).2.2.1 = some (tyJx145de k) := by decide +kernel
def RJx8e188 : String := "java/lang/Cloneable"
def TJx8e188 : u_T := fun k => match k with
  | _ => ("", "", "", false)
def tyJx8e188 : Nat → FieldType := fun k => match k with
  | _ => .int
abbrev wsJx8e1880 : List Cond := u_ws RJx8e188 TJx8e188 0
theorem nmJx8e188 : ∀ a, a < 0 → ∀ b, b < 0 → a ≠ b → (TJx8e188 a).2.1 ≠ (TJx8e188 b).2.1 := by decide +kernel
theorem tyJx8e188_ok : ∀ k, k < 0 → parseFieldDescriptor (TJx8e188 k).2.2.1 = some (tyJx8e188 k) := by decide +kernel
def RJxab1ab : String := "java/lang/Iterable"
def TJxab1ab : u_T := fun k => match k with
  | _ => ("", "", "", false)
def tyJxab1ab : Nat → FieldType := fun k => match k with
  | _ => .int
abbrev wsJxab1ab0 : List Cond := u_ws RJxab1ab TJxab1ab 0
theorem nmJxab1ab : ∀ a, a < 0 → ∀ b, b < 0 → a ≠ b → (TJxab1ab a).2.1 ≠ (TJxab1ab b).2.1 := by decide +kernel
theorem tyJxab1ab_ok : ∀ k, k < 0 → parseFieldDescriptor (TJxab1ab k).2.2.1 = some (tyJxab1ab k) := by decide +kernel
def RJ9 : String := "java/lang/Math"
def TJ9 : u_T := fun k => match k with
  | _ => ("", "", "", false)
def tyJ9 : Nat → FieldType := fun k => match k with
  | _ => .int
abbrev wsJ90 : List Cond := u_ws RJ9 TJ9 0
theorem nmJ9 : ∀ a, a < 0 → ∀ b, b < 0 → a ≠ b → (TJ9 a).2.1 ≠ (TJ9 b).2.1 := by decide +kernel
theorem tyJ9_ok : ∀ k, k < 0 → parseFieldDescriptor (TJ9 k).2.2.1 = some (tyJ9 k) := by decide +kernel
abbrev cJ9_floorDiv_f86c9 : ByteArray := prog_21_method_49_code
def yJ9_floorDiv_f86c9 : MethodName := ⟨RJ9, "floorDiv", "(JJ)J"⟩
abbrev cJ9_abs_0f7a4 : ByteArray := prog_21_method_59_code
def yJ9_abs_0f7a4 : MethodName := ⟨RJ9, "abs", "(I)I"⟩
abbrev cJ9_abs_067f4 : ByteArray := prog_21_method_61_code
def yJ9_abs_067f4 : MethodName := ⟨RJ9, "abs", "(J)J"⟩
abbrev cJ9_max_7cf53 : ByteArray := prog_21_method_65_code
def yJ9_max_7cf53 : MethodName := ⟨RJ9, "max", "(II)I"⟩
abbrev cJ9_max_f86c9 : ByteArray := prog_21_method_66_code
def yJ9_max_f86c9 : MethodName := ⟨RJ9, "max", "(JJ)J"⟩
abbrev cJ9_min_7cf53 : ByteArray := prog_21_method_69_code
def yJ9_min_7cf53 : MethodName := ⟨RJ9, "min", "(II)I"⟩
abbrev cJ9_min_f86c9 : ByteArray := prog_21_method_70_code
def yJ9_min_f86c9 : MethodName := ⟨RJ9, "min", "(JJ)J"⟩
def RJ0 : String := "java/lang/String"
def TJ0 : u_T := fun k => match k with
  | _ => ("", "", "", false)
def tyJ0 : Nat → FieldType := fun k => match k with
  | _ => .int
abbrev wsJ00 : List Cond := u_ws RJ0 TJ0 0
theorem nmJ0 : ∀ a, a < 0 → ∀ b, b < 0 → a ≠ b → (TJ0 a).2.1 ≠ (TJ0 b).2.1 := by decide +kernel
theorem tyJ0_ok : ∀ k, k < 0 → parseFieldDescriptor (TJ0 k).2.2.1 = some (tyJ0 k) := by decide +kernel
def RJ10 : String := "java/lang/System"
def TJ10 : u_T := fun k => match k with
  | _ => ("", "", "", false)
def tyJ10 : Nat → FieldType := fun k => match k with
  | _ => .int
abbrev wsJ100 : List Cond := u_ws RJ10 TJ10 0
theorem nmJ10 : ∀ a, a < 0 → ∀ b, b < 0 → a ≠ b → (TJ10 a).2.1 ≠ (TJ10 b).2.1 := by decide +kernel
theorem tyJ10_ok : ∀ k, k < 0 → parseFieldDescriptor (TJ10 k).2.2.1 = some (tyJ10 k) := by decide +kernel
def RJxa1e45 : String := "java/util/AbstractCollection"
def TJxa1e45 : u_T := fun k => match k with
  | _ => ("", "", "", false)
def tyJxa1e45 : Nat → FieldType := fun k => match k with
  | _ => .int
abbrev wsJxa1e450 : List Cond := u_ws RJxa1e45 TJxa1e45 0
theorem nmJxa1e45 : ∀ a, a < 0 → ∀ b, b < 0 → a ≠ b → (TJxa1e45 a).2.1 ≠ (TJxa1e45 b).2.1 := by decide +kernel
theorem tyJxa1e45_ok : ∀ k, k < 0 → parseFieldDescriptor (TJxa1e45 k).2.2.1 = some (tyJxa1e45 k) := by decide +kernel
abbrev cJxa1e45_init_da8c8 : ByteArray := prog_26_method_1_code
def yJxa1e45_init_da8c8 : MethodName := ⟨RJxa1e45, "<init>", "()V"⟩
def RJxc12de : String := "java/util/AbstractList"
def TJxc12de : u_T := fun k => match k with
  | _ => ("", "", "", false)
def tyJxc12de : Nat → FieldType := fun k => match k with
  | _ => .int
abbrev wsJxc12de0 : List Cond := u_ws RJxc12de TJxc12de 0
theorem nmJxc12de : ∀ a, a < 0 → ∀ b, b < 0 → a ≠ b → (TJxc12de a).2.1 ≠ (TJxc12de b).2.1 := by decide +kernel
theorem tyJxc12de_ok : ∀ k, k < 0 → parseFieldDescriptor (TJxc12de k).2.2.1 = some (tyJxc12de k) := by decide +kernel
abbrev cJxc12de_init_da8c8 : ByteArray := prog_27_method_1_code
def yJxc12de_init_da8c8 : MethodName := ⟨RJxc12de, "<init>", "()V"⟩
def RJx4a65c : String := "java/util/ArrayList"
def TJx4a65c : u_T := fun k => match k with
  | 0 => ("java/util/AbstractList", "modCount", "I", false)
  | 1 => ("java/util/ArrayList", "elementData", "[Ljava/lang/Object;", false)
  | _ => ("java/util/ArrayList", "size", "I", false)
def tyJx4a65c : Nat → FieldType := fun k => match k with
  | 0 => .int
  | 1 => .array (.object "java/lang/Object")
  | _ => .int
abbrev wsJx4a65c0 : List Cond := u_ws RJx4a65c TJx4a65c 3
theorem nmJx4a65c : ∀ a, a < 3 → ∀ b, b < 3 → a ≠ b → (TJx4a65c a).2.1 ≠ (TJx4a65c b).2.1 := by decide +kernel
theorem tyJx4a65c_ok : ∀ k, k < 3 → parseFieldDescriptor (TJx4a65c k).2.2.1 = some (tyJx4a65c k) := by decide +kernel
abbrev cJx4a65c_init_da8c8 : ByteArray := prog_28_method_2_code
def yJx4a65c_init_da8c8 : MethodName := ⟨RJx4a65c, "<init>", "()V"⟩
abbrev cJx4a65c_grow_92f84 : ByteArray := prog_28_method_6_code
def yJx4a65c_grow_92f84 : MethodName := ⟨RJx4a65c, "grow", "(I)[Ljava/lang/Object;"⟩
abbrev cJx4a65c_grow_d5877 : ByteArray := prog_28_method_7_code
def yJx4a65c_grow_d5877 : MethodName := ⟨RJx4a65c, "grow", "()[Ljava/lang/Object;"⟩
abbrev cJx4a65c_size_8abf5 : ByteArray := prog_28_method_8_code
def yJx4a65c_size_8abf5 : MethodName := ⟨RJx4a65c, "size", "()I"⟩
abbrev cJx4a65c_elementData_915e3 : ByteArray := prog_28_method_18_code
def yJx4a65c_elementData_915e3 : MethodName := ⟨RJx4a65c, "elementData", "(I)Ljava/lang/Object;"⟩
abbrev cJx4a65c_get_915e3 : ByteArray := prog_28_method_20_code
def yJx4a65c_get_915e3 : MethodName := ⟨RJx4a65c, "get", "(I)Ljava/lang/Object;"⟩
abbrev cJx4a65c_add_72be8 : ByteArray := prog_28_method_24_code
def yJx4a65c_add_72be8 : MethodName := ⟨RJx4a65c, "add", "(Ljava/lang/Object;[Ljava/lang/Object;I)V"⟩
abbrev cJx4a65c_add_9ea2d : ByteArray := prog_28_method_25_code
def yJx4a65c_add_9ea2d : MethodName := ⟨RJx4a65c, "add", "(Ljava/lang/Object;)Z"⟩
def RJ7 : String := "java/util/Arrays"
def TJ7 : u_T := fun k => match k with
  | _ => ("", "", "", false)
def tyJ7 : Nat → FieldType := fun k => match k with
  | _ => .int
abbrev wsJ70 : List Cond := u_ws RJ7 TJ7 0
theorem nmJ7 : ∀ a, a < 0 → ∀ b, b < 0 → a ≠ b → (TJ7 a).2.1 ≠ (TJ7 b).2.1 := by decide +kernel
theorem tyJ7_ok : ∀ k, k < 0 → parseFieldDescriptor (TJ7 k).2.2.1 = some (tyJ7 k) := by decide +kernel
abbrev cJ7_copyOf_1904c : ByteArray := prog_29_method_119_code
def yJ7_copyOf_1904c : MethodName := ⟨RJ7, "copyOf", "([Ljava/lang/Object;I)[Ljava/lang/Object;"⟩
abbrev cJ7_copyOf_6403c : ByteArray := prog_29_method_120_code
def yJ7_copyOf_6403c : MethodName := ⟨RJ7, "copyOf", "([Ljava/lang/Object;ILjava/lang/Class;)[Ljava/lang/Object;"⟩
def RJx5ef63 : String := "java/util/Collection"
def TJx5ef63 : u_T := fun k => match k with
  | _ => ("", "", "", false)
def tyJx5ef63 : Nat → FieldType := fun k => match k with
  | _ => .int
abbrev wsJx5ef630 : List Cond := u_ws RJx5ef63 TJx5ef63 0
theorem nmJx5ef63 : ∀ a, a < 0 → ∀ b, b < 0 → a ≠ b → (TJx5ef63 a).2.1 ≠ (TJx5ef63 b).2.1 := by decide +kernel
theorem tyJx5ef63_ok : ∀ k, k < 0 → parseFieldDescriptor (TJx5ef63 k).2.2.1 = some (tyJx5ef63 k) := by decide +kernel
def RJxbd725 : String := "java/util/List"
def TJxbd725 : u_T := fun k => match k with
  | _ => ("", "", "", false)
def tyJxbd725 : Nat → FieldType := fun k => match k with
  | _ => .int
abbrev wsJxbd7250 : List Cond := u_ws RJxbd725 TJxbd725 0
theorem nmJxbd725 : ∀ a, a < 0 → ∀ b, b < 0 → a ≠ b → (TJxbd725 a).2.1 ≠ (TJxbd725 b).2.1 := by decide +kernel
theorem tyJxbd725_ok : ∀ k, k < 0 → parseFieldDescriptor (TJxbd725 k).2.2.1 = some (tyJxbd725 k) := by decide +kernel
def RJ15 : String := "java/util/Objects"
def TJ15 : u_T := fun k => match k with
  | _ => ("", "", "", false)
def tyJ15 : Nat → FieldType := fun k => match k with
  | _ => .int
abbrev wsJ150 : List Cond := u_ws RJ15 TJ15 0
theorem nmJ15 : ∀ a, a < 0 → ∀ b, b < 0 → a ≠ b → (TJ15 a).2.1 ≠ (TJ15 b).2.1 := by decide +kernel
theorem tyJ15_ok : ∀ k, k < 0 → parseFieldDescriptor (TJ15 k).2.2.1 = some (tyJ15 k) := by decide +kernel
abbrev cJ15_checkIndex_7cf53 : ByteArray := prog_32_method_17_code
def yJ15_checkIndex_7cf53 : MethodName := ⟨RJ15, "checkIndex", "(II)I"⟩
def RJxf0a74 : String := "java/util/RandomAccess"
def TJxf0a74 : u_T := fun k => match k with
  | _ => ("", "", "", false)
def tyJxf0a74 : Nat → FieldType := fun k => match k with
  | _ => .int
abbrev wsJxf0a740 : List Cond := u_ws RJxf0a74 TJxf0a74 0
theorem nmJxf0a74 : ∀ a, a < 0 → ∀ b, b < 0 → a ≠ b → (TJxf0a74 a).2.1 ≠ (TJxf0a74 b).2.1 := by decide +kernel
theorem tyJxf0a74_ok : ∀ k, k < 0 → parseFieldDescriptor (TJxf0a74 k).2.2.1 = some (tyJxf0a74 k) := by decide +kernel
def RJxa66e6 : String := "java/util/SequencedCollection"
def TJxa66e6 : u_T := fun k => match k with
  | _ => ("", "", "", false)
def tyJxa66e6 : Nat → FieldType := fun k => match k with
  | _ => .int
abbrev wsJxa66e60 : List Cond := u_ws RJxa66e6 TJxa66e6 0
theorem nmJxa66e6 : ∀ a, a < 0 → ∀ b, b < 0 → a ≠ b → (TJxa66e6 a).2.1 ≠ (TJxa66e6 b).2.1 := by decide +kernel
theorem tyJxa66e6_ok : ∀ k, k < 0 → parseFieldDescriptor (TJxa66e6 k).2.2.1 = some (tyJxa66e6 k) := by decide +kernel
def RJ8 : String := "jdk/internal/util/ArraysSupport"
def TJ8 : u_T := fun k => match k with
  | _ => ("", "", "", false)
def tyJ8 : Nat → FieldType := fun k => match k with
  | _ => .int
abbrev wsJ80 : List Cond := u_ws RJ8 TJ8 0
theorem nmJ8 : ∀ a, a < 0 → ∀ b, b < 0 → a ≠ b → (TJ8 a).2.1 ≠ (TJ8 b).2.1 := by decide +kernel
theorem tyJ8_ok : ∀ k, k < 0 → parseFieldDescriptor (TJ8 k).2.2.1 = some (tyJ8 k) := by decide +kernel
abbrev cJ8_newLength_cabcc : ByteArray := prog_35_method_27_code
def yJ8_newLength_cabcc : MethodName := ⟨RJ8, "newLength", "(III)I"⟩
abbrev cJ8_hugeLength_7cf53 : ByteArray := prog_35_method_28_code
def yJ8_hugeLength_7cf53 : MethodName := ⟨RJ8, "hugeLength", "(II)I"⟩
def RJ3 : String := "jdk/internal/util/Preconditions"
def TJ3 : u_T := fun k => match k with
  | _ => ("", "", "", false)
def tyJ3 : Nat → FieldType := fun k => match k with
  | _ => .int
abbrev wsJ30 : List Cond := u_ws RJ3 TJ3 0
theorem nmJ3 : ∀ a, a < 0 → ∀ b, b < 0 → a ≠ b → (TJ3 a).2.1 ≠ (TJ3 b).2.1 := by decide +kernel
theorem tyJ3_ok : ∀ k, k < 0 → parseFieldDescriptor (TJ3 k).2.2.1 = some (tyJ3 k) := by decide +kernel
abbrev cJ3_checkIndex_8e157 : ByteArray := prog_36_method_11_code
def yJ3_checkIndex_8e157 : MethodName := ⟨RJ3, "checkIndex", "(IILjava/util/function/BiFunction;)I"⟩
def RL : String := "FireNetLaw"
abbrev cL_cell : ByteArray := method_2_code
def yL_cell : MethodName := ⟨RL, "cell", "([II)I"⟩
abbrev cL_low : ByteArray := method_3_code
def yL_low : MethodName := ⟨RL, "low", "(II)I"⟩
abbrev cL_down : ByteArray := method_4_code
def yL_down : MethodName := ⟨RL, "down", "(JJ)J"⟩
abbrev cL_cross : ByteArray := method_5_code
def yL_cross : MethodName := ⟨RL, "cross", "([I[IIII[J)Z"⟩
abbrev cL_joins : ByteArray := method_6_code
def yL_joins : MethodName := ⟨RL, "joins", "([I[III)Z"⟩
abbrev cL_group : ByteArray := method_7_code
def yL_group : MethodName := ⟨RL, "group", "([I[III)I"⟩
abbrev cL_all : ByteArray := method_8_code
def yL_all : MethodName := ⟨RL, "all", "([I[III[J)V"⟩
abbrev cL_weight : ByteArray := method_9_code
def yL_weight : MethodName := ⟨RL, "weight", "([I[JIIII)J"⟩
abbrev cL_chance : ByteArray := method_10_code
def yL_chance : MethodName := ⟨RL, "chance", "([I[JIIII)J"⟩
abbrev cL_right : ByteArray := method_11_code
def yL_right : MethodName := ⟨RL, "right", "(LFireNet;[I[I[III)Z"⟩
abbrev cL_law : ByteArray := code
def yL_law : MethodName := ⟨RL, "law", "([I)Z"⟩
abbrev vwCl : List vw_C := [(RJx4a65c, TJx4a65c, 3), (RX0, TX0, 3), (RX0, TX0, 3), (RX2, TX2, 2), (RX3, TX3, 4), (RX4, TX4, 13), (RX0, TX0, 3), (RX6, TX6, 12), (RX7, TX7, 16), (RX8, TX8, 5), (RX9, TX9, 3), (RX10, TX10, 14)]
