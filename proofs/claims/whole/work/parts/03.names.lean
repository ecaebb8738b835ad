/-! ===== BEGIN printed: names, fields, word lists, decode rows ===== -/
def RX0 : String := "ShardRing$Plan"
def TX0 : u_T := fun k => match k with
  | 0 => ("ShardRing$Plan", "keys", "[I", false)
  | 1 => ("ShardRing$Plan", "sources", "[I", false)
  | 2 => ("ShardRing$Plan", "targets", "[I", false)
  | 3 => ("ShardRing$Plan", "size", "I", false)
  | 4 => ("ShardRing$Plan", "open", "Z", false)
  | 5 => ("ShardRing$Plan", "flipped", "I", false)
  | 6 => ("ShardRing$Plan", "gone", "I", false)
  | _ => ("ShardRing$Plan", "copied", "Z", false)
def tyX0 : Nat → FieldType := fun k => match k with
  | 0 => .array .int
  | 1 => .array .int
  | 2 => .array .int
  | 3 => .int
  | 4 => .boolean
  | 5 => .int
  | 6 => .int
  | _ => .boolean
abbrev wsX00 : List Cond := u_ws RX0 TX0 8
theorem nmX0 : ∀ a, a < 8 → ∀ b, b < 8 → a ≠ b → (TX0 a).2.1 ≠ (TX0 b).2.1 := by decide +kernel
theorem tyX0_ok : ∀ k, k < 8 → parseFieldDescriptor (TX0 k).2.2.1 = some (tyX0 k) := by decide +kernel
abbrev cX0_init : ByteArray := prog_2_method_1_code
def yX0_init : MethodName := ⟨RX0, "<init>", "()V"⟩
abbrev cX0_end : ByteArray := prog_2_method_2_code
def yX0_end : MethodName := ⟨RX0, "end", "()V"⟩
abbrev cX0_forgetUnwritten : ByteArray := prog_2_method_3_code
def yX0_forgetUnwritten : MethodName := ⟨RX0, "forgetUnwritten", "()V"⟩
abbrev cX0_enter : ByteArray := prog_2_method_4_code
def yX0_enter : MethodName := ⟨RX0, "enter", "(III)V"⟩
abbrev cX0_rowOf : ByteArray := prog_2_method_5_code
def yX0_rowOf : MethodName := ⟨RX0, "rowOf", "(I)I"⟩
abbrev cX0_stateAt : ByteArray := prog_2_method_6_code
def yX0_stateAt : MethodName := ⟨RX0, "stateAt", "(I)I"⟩
def RX1 : String := "ShardRing$Power"
def TX1 : u_T := fun k => match k with
  | 0 => ("ShardRing$Power", "isOff", "Z", false)
  | 1 => ("ShardRing$Power", "writesLeft", "I", false)
  | 2 => ("ShardRing$Power", "writes", "I", false)
  | _ => ("ShardRing$Power", "records", "I", false)
def tyX1 : Nat → FieldType := fun k => match k with
  | 0 => .boolean
  | 1 => .int
  | 2 => .int
  | _ => .int
abbrev wsX10 : List Cond := u_ws RX1 TX1 4
theorem nmX1 : ∀ a, a < 4 → ∀ b, b < 4 → a ≠ b → (TX1 a).2.1 ≠ (TX1 b).2.1 := by decide +kernel
theorem tyX1_ok : ∀ k, k < 4 → parseFieldDescriptor (TX1 k).2.2.1 = some (tyX1 k) := by decide +kernel
abbrev cX1_init : ByteArray := prog_3_method_1_code
def yX1_init : MethodName := ⟨RX1, "<init>", "()V"⟩
abbrev cX1_lastsForWrite : ByteArray := prog_3_method_2_code
def yX1_lastsForWrite : MethodName := ⟨RX1, "lastsForWrite", "()Z"⟩
abbrev cX1_lastsForRecord : ByteArray := prog_3_method_3_code
def yX1_lastsForRecord : MethodName := ⟨RX1, "lastsForRecord", "()Z"⟩
def RX2 : String := "ShardRing$Ring"
def TX2 : u_T := fun k => match k with
  | 0 => ("ShardRing$Ring", "pointsOf", "[I", true)
  | 1 => ("ShardRing$Ring", "places", "[I", false)
  | 2 => ("ShardRing$Ring", "nodes", "[I", false)
  | _ => ("ShardRing$Ring", "size", "I", false)
def tyX2 : Nat → FieldType := fun k => match k with
  | 0 => .array .int
  | 1 => .array .int
  | 2 => .array .int
  | _ => .int
abbrev wsX20 : List Cond := u_ws RX2 TX2 4
theorem nmX2 : ∀ a, a < 4 → ∀ b, b < 4 → a ≠ b → (TX2 a).2.1 ≠ (TX2 b).2.1 := by decide +kernel
theorem tyX2_ok : ∀ k, k < 4 → parseFieldDescriptor (TX2 k).2.2.1 = some (tyX2 k) := by decide +kernel
abbrev cX2_init : ByteArray := prog_4_method_1_code
def yX2_init : MethodName := ⟨RX2, "<init>", "()V"⟩
abbrev cX2_enrol : ByteArray := prog_4_method_2_code
def yX2_enrol : MethodName := ⟨RX2, nRg, "(II)V"⟩
abbrev cX2_dismiss : ByteArray := prog_4_method_3_code
def yX2_dismiss : MethodName := ⟨RX2, "dismiss", "(I)V"⟩
abbrev cX2_ownerOf : ByteArray := prog_4_method_4_code
def yX2_ownerOf : MethodName := ⟨RX2, "ownerOf", "(I)I"⟩
abbrev cX2_placesOf : ByteArray := prog_4_method_5_code
def yX2_placesOf : MethodName := ⟨RX2, "placesOf", "(I)J"⟩
def RX3 : String := "ShardRing$Store"
def TX3 : u_T := fun k => match k with
  | 0 => ("ShardRing$Store", "keys", "[I", false)
  | 1 => ("ShardRing$Store", "values", "[I", false)
  | _ => ("ShardRing$Store", "size", "I", false)
def tyX3 : Nat → FieldType := fun k => match k with
  | 0 => .array .int
  | 1 => .array .int
  | _ => .int
abbrev wsX30 : List Cond := u_ws RX3 TX3 3
theorem nmX3 : ∀ a, a < 3 → ∀ b, b < 3 → a ≠ b → (TX3 a).2.1 ≠ (TX3 b).2.1 := by decide +kernel
theorem tyX3_ok : ∀ k, k < 3 → parseFieldDescriptor (TX3 k).2.2.1 = some (tyX3 k) := by decide +kernel
abbrev cX3_init : ByteArray := prog_5_method_1_code
def yX3_init : MethodName := ⟨RX3, "<init>", "()V"⟩
abbrev cX3_has : ByteArray := prog_5_method_2_code
def yX3_has : MethodName := ⟨RX3, "has", "(I)Z"⟩
abbrev cX3_hasAt : ByteArray := prog_5_method_3_code
def yX3_hasAt : MethodName := ⟨RX3, "hasAt", "(II)Z"⟩
abbrev cX3_valueOf : ByteArray := prog_5_method_4_code
def yX3_valueOf : MethodName := ⟨RX3, "valueOf", "(I)I"⟩
abbrev cX3_set : ByteArray := prog_5_method_5_code
def yX3_set : MethodName := ⟨RX3, "set", "(II)V"⟩
abbrev cX3_drop : ByteArray := prog_5_method_6_code
def yX3_drop : MethodName := ⟨RX3, "drop", "(I)V"⟩
def RX4 : String := "ShardRing"
def TX4 : u_T := fun k => match k with
  | 0 => ("ShardRing", "ring", "LShardRing$Ring;", true)
  | 1 => ("ShardRing", "stores", "[LShardRing$Store;", true)
  | 2 => ("ShardRing", "plan", "LShardRing$Plan;", true)
  | 3 => ("ShardRing", "power", "LShardRing$Power;", true)
  | _ => ("ShardRing", "there", "I", false)
def tyX4 : Nat → FieldType := fun k => match k with
  | 0 => .object "ShardRing$Ring"
  | 1 => .array (.object "ShardRing$Store")
  | 2 => .object "ShardRing$Plan"
  | 3 => .object "ShardRing$Power"
  | _ => .int
abbrev wsX40 : List Cond := u_ws RX4 TX4 5
theorem nmX4 : ∀ a, a < 5 → ∀ b, b < 5 → a ≠ b → (TX4 a).2.1 ≠ (TX4 b).2.1 := by decide +kernel
theorem tyX4_ok : ∀ k, k < 5 → parseFieldDescriptor (TX4 k).2.2.1 = some (tyX4 k) := by decide +kernel
abbrev cX4_init : ByteArray := prog_1_method_1_code
def yX4_init : MethodName := ⟨RX4, "<init>", "(II)V"⟩
abbrev cX4_put : ByteArray := prog_1_method_2_code
def yX4_put : MethodName := ⟨RX4, "put", "(II)I"⟩
abbrev cX4_remove : ByteArray := prog_1_method_3_code
def yX4_remove : MethodName := ⟨RX4, "remove", "(I)I"⟩
abbrev cX4_get : ByteArray := prog_1_method_4_code
def yX4_get : MethodName := ⟨RX4, "get", "(I)I"⟩
abbrev cX4_join : ByteArray := prog_1_method_5_code
def yX4_join : MethodName := ⟨RX4, "join", "(II)I"⟩
abbrev cX4_leave : ByteArray := prog_1_method_6_code
def yX4_leave : MethodName := ⟨RX4, "leave", "(I)I"⟩
abbrev cX4_step : ByteArray := prog_1_method_7_code
def yX4_step : MethodName := ⟨RX4, "step", "()I"⟩
abbrev cX4_fail : ByteArray := prog_1_method_8_code
def yX4_fail : MethodName := ⟨RX4, "fail", "(I)V"⟩
abbrev cX4_recover : ByteArray := prog_1_method_9_code
def yX4_recover : MethodName := ⟨RX4, "recover", "()I"⟩
abbrev cX4_off : ByteArray := prog_1_method_10_code
def yX4_off : MethodName := ⟨RX4, "off", "()Z"⟩
abbrev cX4_place : ByteArray := prog_1_method_11_code
def yX4_place : MethodName := ⟨RX4, "place", "(J)I"⟩
abbrev cX4_owner : ByteArray := prog_1_method_12_code
def yX4_owner : MethodName := ⟨RX4, "owner", "(I)I"⟩
abbrev cX4_home : ByteArray := prog_1_method_13_code
def yX4_home : MethodName := ⟨RX4, "home", "(I)I"⟩
abbrev cX4_state : ByteArray := prog_1_method_14_code
def yX4_state : MethodName := ⟨RX4, "state", "(I)I"⟩
abbrev cX4_holds : ByteArray := prog_1_method_15_code
def yX4_holds : MethodName := ⟨RX4, "holds", "(II)Z"⟩
abbrev cX4_size : ByteArray := prog_1_method_16_code
def yX4_size : MethodName := ⟨RX4, "size", "(I)I"⟩
abbrev cX4_key : ByteArray := prog_1_method_17_code
def yX4_key : MethodName := ⟨RX4, "key", "(II)I"⟩
abbrev cX4_points : ByteArray := prog_1_method_18_code
def yX4_points : MethodName := ⟨RX4, "points", "(I)I"⟩
abbrev cX4_count : ByteArray := prog_1_method_19_code
def yX4_count : MethodName := ⟨RX4, "count", "(I)I"⟩
abbrev cX4_written : ByteArray := prog_1_method_20_code
def yX4_written : MethodName := ⟨RX4, "written", "(Z)I"⟩
abbrev cX4_share : ByteArray := prog_1_method_21_code
def yX4_share : MethodName := ⟨RX4, "share", "(I)J"⟩
abbrev cX4_needPower : ByteArray := prog_1_method_22_code
def yX4_needPower : MethodName := ⟨RX4, "needPower", "()V"⟩
abbrev cX4_needNode : ByteArray := prog_1_method_23_code
def yX4_needNode : MethodName := ⟨RX4, "needNode", "(I)V"⟩
abbrev cX4_homeAt : ByteArray := prog_1_method_24_code
def yX4_homeAt : MethodName := ⟨RX4, "homeAt", "(II)I"⟩
abbrev cX4_makePlan : ByteArray := prog_1_method_25_code
def yX4_makePlan : MethodName := ⟨RX4, "makePlan", "()V"⟩
abbrev cX4_copyToTarget : ByteArray := prog_1_method_26_code
def yX4_copyToTarget : MethodName := ⟨RX4, "copyToTarget", "(I)I"⟩
abbrev cX4_flip : ByteArray := prog_1_method_27_code
def yX4_flip : MethodName := ⟨RX4, "flip", "()I"⟩
abbrev cX4_takeOffSource : ByteArray := prog_1_method_28_code
def yX4_takeOffSource : MethodName := ⟨RX4, "takeOffSource", "(I)I"⟩
abbrev cX4_endPlan : ByteArray := prog_1_method_29_code
def yX4_endPlan : MethodName := ⟨RX4, "endPlan", "()I"⟩
abbrev cX4_placeOf : ByteArray := prog_1_method_30_code
def yX4_placeOf : MethodName := ⟨RX4, "placeOf", "(J)I"⟩
abbrev cX4_below : ByteArray := prog_1_method_31_code
def yX4_below : MethodName := ⟨RX4, "below", "([III)I"⟩
abbrev cX4_inserted : ByteArray := prog_1_method_32_code
def yX4_inserted : MethodName := ⟨RX4, "inserted", "([IIII)[I"⟩
def RX5 : String := "ShardRingModel"
def TX5 : u_T := fun k => match k with
  | 0 => ("ShardRingModel", "code", "I", false)
  | 1 => ("ShardRingModel", "off", "Z", false)
  | 2 => ("ShardRingModel", "left", "I", false)
  | 3 => ("ShardRingModel", "writes", "I", false)
  | 4 => ("ShardRingModel", "records", "I", false)
  | 5 => ("ShardRingModel", "members", "[I", true)
  | 6 => ("ShardRingModel", "others", "[I", true)
  | 7 => ("ShardRingModel", "keys", "[I", true)
  | 8 => ("ShardRingModel", "values", "[I", true)
  | 9 => ("ShardRingModel", "sizes", "[I", true)
  | 10 => ("ShardRingModel", "planned", "Z", false)
  | 11 => ("ShardRingModel", "planSize", "I", false)
  | 12 => ("ShardRingModel", "planKeys", "[I", true)
  | 13 => ("ShardRingModel", "sources", "[I", true)
  | 14 => ("ShardRingModel", "targets", "[I", true)
  | 15 => ("ShardRingModel", "flipped", "[Z", true)
  | _ => ("ShardRingModel", "states", "[I", true)
def tyX5 : Nat → FieldType := fun k => match k with
  | 0 => .int
  | 1 => .boolean
  | 2 => .int
  | 3 => .int
  | 4 => .int
  | 5 => .array .int
  | 6 => .array .int
  | 7 => .array .int
  | 8 => .array .int
  | 9 => .array .int
  | 10 => .boolean
  | 11 => .int
  | 12 => .array .int
  | 13 => .array .int
  | 14 => .array .int
  | 15 => .array .boolean
  | _ => .array .int
abbrev wsX50 : List Cond := u_ws RX5 TX5 17
theorem nmX5 : ∀ a, a < 17 → ∀ b, b < 17 → a ≠ b → (TX5 a).2.1 ≠ (TX5 b).2.1 := by decide +kernel
theorem tyX5_ok : ∀ k, k < 17 → parseFieldDescriptor (TX5 k).2.2.1 = some (tyX5 k) := by decide +kernel
abbrev cX5_init : ByteArray := prog_7_method_1_code
def yX5_init : MethodName := ⟨RX5, "<init>", "(II)V"⟩
abbrev cX5_thrown : ByteArray := prog_7_method_2_code
def yX5_thrown : MethodName := ⟨RX5, "thrown", "()I"⟩
abbrev cX5_placeOf : ByteArray := prog_7_method_3_code
def yX5_placeOf : MethodName := ⟨RX5, "placeOf", "(J)I"⟩
abbrev cX5_pointOf : ByteArray := prog_7_method_4_code
def yX5_pointOf : MethodName := ⟨RX5, "pointOf", "(II)I"⟩
abbrev cX5_ownerOf : ByteArray := prog_7_method_5_code
def yX5_ownerOf : MethodName := ⟨RX5, "ownerOf", "([II)I"⟩
abbrev cX5_place : ByteArray := prog_7_method_6_code
def yX5_place : MethodName := ⟨RX5, "place", "(J)I"⟩
abbrev cX5_find : ByteArray := prog_7_method_7_code
def yX5_find : MethodName := ⟨RX5, "find", "(II)I"⟩
abbrev cX5_has : ByteArray := prog_7_method_8_code
def yX5_has : MethodName := ⟨RX5, "has", "(II)Z"⟩
abbrev cX5_valueIn : ByteArray := prog_7_method_9_code
def yX5_valueIn : MethodName := ⟨RX5, "valueIn", "(II)I"⟩
abbrev cX5_store : ByteArray := prog_7_method_10_code
def yX5_store : MethodName := ⟨RX5, "store", "(III)V"⟩
abbrev cX5_takeOff : ByteArray := prog_7_method_11_code
def yX5_takeOff : MethodName := ⟨RX5, "takeOff", "(II)V"⟩
abbrev cX5_writes : ByteArray := prog_7_method_12_code
def yX5_writes : MethodName := ⟨RX5, "writes", "()Z"⟩
abbrev cX5_record : ByteArray := prog_7_method_13_code
def yX5_record : MethodName := ⟨RX5, "record", "()Z"⟩
abbrev cX5_planned : ByteArray := prog_7_method_14_code
def yX5_planned : MethodName := ⟨RX5, "planned", "(I)I"⟩
abbrev cX5_homeOf : ByteArray := prog_7_method_15_code
def yX5_homeOf : MethodName := ⟨RX5, "homeOf", "(I)I"⟩
abbrev cX5_isThere : ByteArray := prog_7_method_16_code
def yX5_isThere : MethodName := ⟨RX5, "isThere", "(I)Z"⟩
abbrev cX5_there : ByteArray := prog_7_method_17_code
def yX5_there : MethodName := ⟨RX5, "there", "()I"⟩
abbrev cX5_isOff : ByteArray := prog_7_method_18_code
def yX5_isOff : MethodName := ⟨RX5, "isOff", "()Z"⟩
abbrev cX5_put : ByteArray := prog_7_method_19_code
def yX5_put : MethodName := ⟨RX5, "put", "(II)I"⟩
abbrev cX5_remove : ByteArray := prog_7_method_20_code
def yX5_remove : MethodName := ⟨RX5, "remove", "(I)I"⟩
abbrev cX5_get : ByteArray := prog_7_method_21_code
def yX5_get : MethodName := ⟨RX5, "get", "(I)I"⟩
abbrev cX5_begin : ByteArray := prog_7_method_22_code
def yX5_begin : MethodName := ⟨RX5, "begin", "()I"⟩
abbrev cX5_movePlan : ByteArray := prog_7_method_23_code
def yX5_movePlan : MethodName := ⟨RX5, "movePlan", "(II)V"⟩
abbrev cX5_change : ByteArray := prog_7_method_24_code
def yX5_change : MethodName := ⟨RX5, "change", "(II)I"⟩
abbrev cX5_noNode : ByteArray := prog_7_method_25_code
def yX5_noNode : MethodName := ⟨RX5, "noNode", "(I)Z"⟩
abbrev cX5_join : ByteArray := prog_7_method_26_code
def yX5_join : MethodName := ⟨RX5, "join", "(II)I"⟩
abbrev cX5_memberCount : ByteArray := prog_7_method_27_code
def yX5_memberCount : MethodName := ⟨RX5, "memberCount", "()I"⟩
abbrev cX5_leave : ByteArray := prog_7_method_28_code
def yX5_leave : MethodName := ⟨RX5, "leave", "(I)I"⟩
abbrev cX5_step : ByteArray := prog_7_method_29_code
def yX5_step : MethodName := ⟨RX5, "step", "()I"⟩
abbrev cX5_copy : ByteArray := prog_7_method_30_code
def yX5_copy : MethodName := ⟨RX5, "copy", "(I)I"⟩
abbrev cX5_flip : ByteArray := prog_7_method_31_code
def yX5_flip : MethodName := ⟨RX5, "flip", "(I)I"⟩
abbrev cX5_clear : ByteArray := prog_7_method_32_code
def yX5_clear : MethodName := ⟨RX5, "clear", "(I)I"⟩
abbrev cX5_fail : ByteArray := prog_7_method_33_code
def yX5_fail : MethodName := ⟨RX5, "fail", "(I)V"⟩
abbrev cX5_recover : ByteArray := prog_7_method_34_code
def yX5_recover : MethodName := ⟨RX5, "recover", "()I"⟩
abbrev cX5_off : ByteArray := prog_7_method_35_code
def yX5_off : MethodName := ⟨RX5, "off", "()Z"⟩
abbrev cX5_owner : ByteArray := prog_7_method_36_code
def yX5_owner : MethodName := ⟨RX5, "owner", "(I)I"⟩
abbrev cX5_home : ByteArray := prog_7_method_37_code
def yX5_home : MethodName := ⟨RX5, "home", "(I)I"⟩
abbrev cX5_state : ByteArray := prog_7_method_38_code
def yX5_state : MethodName := ⟨RX5, "state", "(I)I"⟩
abbrev cX5_holds : ByteArray := prog_7_method_39_code
def yX5_holds : MethodName := ⟨RX5, "holds", "(II)Z"⟩
abbrev cX5_size : ByteArray := prog_7_method_40_code
def yX5_size : MethodName := ⟨RX5, "size", "(I)I"⟩
abbrev cX5_key : ByteArray := prog_7_method_41_code
def yX5_key : MethodName := ⟨RX5, "key", "(II)I"⟩
abbrev cX5_points : ByteArray := prog_7_method_42_code
def yX5_points : MethodName := ⟨RX5, "points", "(I)I"⟩
abbrev cX5_still : ByteArray := prog_7_method_43_code
def yX5_still : MethodName := ⟨RX5, "still", "(I)I"⟩
abbrev cX5_count : ByteArray := prog_7_method_44_code
def yX5_count : MethodName := ⟨RX5, "count", "(I)I"⟩
abbrev cX5_written : ByteArray := prog_7_method_45_code
def yX5_written : MethodName := ⟨RX5, "written", "(Z)I"⟩
abbrev cX5_behind : ByteArray := prog_7_method_46_code
def yX5_behind : MethodName := ⟨RX5, "behind", "(I)J"⟩
abbrev cX5_isFirst : ByteArray := prog_7_method_47_code
def yX5_isFirst : MethodName := ⟨RX5, "isFirst", "(II)Z"⟩
abbrev cX5_share : ByteArray := prog_7_method_48_code
def yX5_share : MethodName := ⟨RX5, "share", "(I)J"⟩
def RJx145de : String := "java/io/Serializable"
def TJx145de : u_T := fun k => match k with
  | _ => ("", "", "", false)
def tyJx145de : Nat → FieldType := fun k => match k with
  | _ => .int
abbrev wsJx145de0 : List Cond := u_ws RJx145de TJx145de 0
theorem nmJx145de : ∀ a, a < 0 → ∀ b, b < 0 → a ≠ b → (TJx145de a).2.1 ≠ (TJx145de b).2.1 := by decide +kernel
theorem tyJx145de_ok : ∀ k, k < 0 → parseFieldDescriptor (TJx145de k).2.2.1 = some (tyJx145de k) := by decide +kernel
def RJx8e188 : String := "java/lang/Cloneable"
def TJx8e188 : u_T := fun k => match k with
  | _ => ("", "", "", false)
def tyJx8e188 : Nat → FieldType := fun k => match k with
  | _ => .int
abbrev wsJx8e1880 : List Cond := u_ws RJx8e188 TJx8e188 0
theorem nmJx8e188 : ∀ a, a < 0 → ∀ b, b < 0 → a ≠ b → (TJx8e188 a).2.1 ≠ (TJx8e188 b).2.1 := by decide +kernel
theorem tyJx8e188_ok : ∀ k, k < 0 → parseFieldDescriptor (TJx8e188 k).2.2.1 = some (tyJx8e188 k) := by decide +kernel
def RJxb160c : String := "java/lang/Comparable"
def TJxb160c : u_T := fun k => match k with
  | _ => ("", "", "", false)
def tyJxb160c : Nat → FieldType := fun k => match k with
  | _ => .int
abbrev wsJxb160c0 : List Cond := u_ws RJxb160c TJxb160c 0
theorem nmJxb160c : ∀ a, a < 0 → ∀ b, b < 0 → a ≠ b → (TJxb160c a).2.1 ≠ (TJxb160c b).2.1 := by decide +kernel
theorem tyJxb160c_ok : ∀ k, k < 0 → parseFieldDescriptor (TJxb160c k).2.2.1 = some (tyJxb160c k) := by decide +kernel
def RJ6 : String := "java/lang/Integer"
def TJ6 : u_T := fun k => match k with
  | _ => ("", "", "", false)
def tyJ6 : Nat → FieldType := fun k => match k with
  | _ => .int
abbrev wsJ60 : List Cond := u_ws RJ6 TJ6 0
theorem nmJ6 : ∀ a, a < 0 → ∀ b, b < 0 → a ≠ b → (TJ6 a).2.1 ≠ (TJ6 b).2.1 := by decide +kernel
theorem tyJ6_ok : ∀ k, k < 0 → parseFieldDescriptor (TJ6 k).2.2.1 = some (tyJ6 k) := by decide +kernel
abbrev cJ6_highestOneBit_0f7a4 : ByteArray := prog_15_method_45_code
def yJ6_highestOneBit_0f7a4 : MethodName := ⟨RJ6, "highestOneBit", "(I)I"⟩
abbrev cJ6_numberOfLeadingZeros_0f7a4 : ByteArray := prog_15_method_47_code
def yJ6_numberOfLeadingZeros_0f7a4 : MethodName := ⟨RJ6, "numberOfLeadingZeros", "(I)I"⟩
def RJ9 : String := "java/lang/Math"
def TJ9 : u_T := fun k => match k with
  | _ => ("", "", "", false)
def tyJ9 : Nat → FieldType := fun k => match k with
  | _ => .int
abbrev wsJ90 : List Cond := u_ws RJ9 TJ9 0
theorem nmJ9 : ∀ a, a < 0 → ∀ b, b < 0 → a ≠ b → (TJ9 a).2.1 ≠ (TJ9 b).2.1 := by decide +kernel
theorem tyJ9_ok : ∀ k, k < 0 → parseFieldDescriptor (TJ9 k).2.2.1 = some (tyJ9 k) := by decide +kernel
abbrev cJ9_max_7cf53 : ByteArray := prog_16_method_65_code
def yJ9_max_7cf53 : MethodName := ⟨RJ9, "max", "(II)I"⟩
abbrev cJ9_min_7cf53 : ByteArray := prog_16_method_69_code
def yJ9_min_7cf53 : MethodName := ⟨RJ9, "min", "(II)I"⟩
def RJxd2413 : String := "java/lang/Number"
def TJxd2413 : u_T := fun k => match k with
  | _ => ("", "", "", false)
def tyJxd2413 : Nat → FieldType := fun k => match k with
  | _ => .int
abbrev wsJxd24130 : List Cond := u_ws RJxd2413 TJxd2413 0
theorem nmJxd2413 : ∀ a, a < 0 → ∀ b, b < 0 → a ≠ b → (TJxd2413 a).2.1 ≠ (TJxd2413 b).2.1 := by decide +kernel
theorem tyJxd2413_ok : ∀ k, k < 0 → parseFieldDescriptor (TJxd2413 k).2.2.1 = some (tyJxd2413 k) := by decide +kernel
def RJ0 : String := "java/lang/String"
def TJ0 : u_T := fun k => match k with
  | _ => ("", "", "", false)
def tyJ0 : Nat → FieldType := fun k => match k with
  | _ => .int
abbrev wsJ00 : List Cond := u_ws RJ0 TJ0 0
theorem nmJ0 : ∀ a, a < 0 → ∀ b, b < 0 → a ≠ b → (TJ0 a).2.1 ≠ (TJ0 b).2.1 := by decide +kernel
theorem tyJ0_ok : ∀ k, k < 0 → parseFieldDescriptor (TJ0 k).2.2.1 = some (tyJ0 k) := by decide +kernel
def RJ10 : String := "java/lang/System"
def TJ10 : u_T := fun k => match k with
  | _ => ("", "", "", false)
def tyJ10 : Nat → FieldType := fun k => match k with
  | _ => .int
abbrev wsJ100 : List Cond := u_ws RJ10 TJ10 0
theorem nmJ10 : ∀ a, a < 0 → ∀ b, b < 0 → a ≠ b → (TJ10 a).2.1 ≠ (TJ10 b).2.1 := by decide +kernel
theorem tyJ10_ok : ∀ k, k < 0 → parseFieldDescriptor (TJ10 k).2.2.1 = some (tyJ10 k) := by decide +kernel
def RJxfd54e : String := "java/lang/constant/Constable"
def TJxfd54e : u_T := fun k => match k with
  | _ => ("", "", "", false)
def tyJxfd54e : Nat → FieldType := fun k => match k with
  | _ => .int
abbrev wsJxfd54e0 : List Cond := u_ws RJxfd54e TJxfd54e 0
theorem nmJxfd54e : ∀ a, a < 0 → ∀ b, b < 0 → a ≠ b → (TJxfd54e a).2.1 ≠ (TJxfd54e b).2.1 := by decide +kernel
theorem tyJxfd54e_ok : ∀ k, k < 0 → parseFieldDescriptor (TJxfd54e k).2.2.1 = some (tyJxfd54e k) := by decide +kernel
def RJx3cf43 : String := "java/lang/constant/ConstantDesc"
def TJx3cf43 : u_T := fun k => match k with
  | _ => ("", "", "", false)
def tyJx3cf43 : Nat → FieldType := fun k => match k with
  | _ => .int
abbrev wsJx3cf430 : List Cond := u_ws RJx3cf43 TJx3cf43 0
theorem nmJx3cf43 : ∀ a, a < 0 → ∀ b, b < 0 → a ≠ b → (TJx3cf43 a).2.1 ≠ (TJx3cf43 b).2.1 := by decide +kernel
theorem tyJx3cf43_ok : ∀ k, k < 0 → parseFieldDescriptor (TJx3cf43 k).2.2.1 = some (tyJx3cf43 k) := by decide +kernel
def RJ7 : String := "java/util/Arrays"
def TJ7 : u_T := fun k => match k with
  | _ => ("", "", "", false)
def tyJ7 : Nat → FieldType := fun k => match k with
  | _ => .int
abbrev wsJ70 : List Cond := u_ws RJ7 TJ7 0
theorem nmJ7 : ∀ a, a < 0 → ∀ b, b < 0 → a ≠ b → (TJ7 a).2.1 ≠ (TJ7 b).2.1 := by decide +kernel
theorem tyJ7_ok : ∀ k, k < 0 → parseFieldDescriptor (TJ7 k).2.2.1 = some (tyJ7 k) := by decide +kernel
abbrev cJ7_copyOf_59c91 : ByteArray := prog_24_method_123_code
def yJ7_copyOf_59c91 : MethodName := ⟨RJ7, "copyOf", "([II)[I"⟩
def RL : String := "ShardRingLaw"
abbrev cL_cell : ByteArray := method_2_code
def yL_cell : MethodName := ⟨RL, "cell", "([II)I"⟩
abbrev cL_put : ByteArray := method_3_code
def yL_put : MethodName := ⟨RL, "put", "(LShardRing;II[J)I"⟩
abbrev cL_remove : ByteArray := method_4_code
def yL_remove : MethodName := ⟨RL, "remove", "(LShardRing;I[J)I"⟩
abbrev cL_get : ByteArray := method_5_code
def yL_get : MethodName := ⟨RL, "get", "(LShardRing;I[J)I"⟩
abbrev cL_join : ByteArray := method_6_code
def yL_join : MethodName := ⟨RL, "join", "(LShardRing;II[J)I"⟩
abbrev cL_leave : ByteArray := method_7_code
def yL_leave : MethodName := ⟨RL, "leave", "(LShardRing;I[J)I"⟩
abbrev cL_step : ByteArray := method_8_code
def yL_step : MethodName := ⟨RL, "step", "(LShardRing;[J)I"⟩
abbrev cL_fail : ByteArray := method_9_code
def yL_fail : MethodName := ⟨RL, "fail", "(LShardRing;I)I"⟩
abbrev cL_recover : ByteArray := method_10_code
def yL_recover : MethodName := ⟨RL, "recover", "(LShardRing;[J)I"⟩
abbrev cL_owner : ByteArray := method_11_code
def yL_owner : MethodName := ⟨RL, "owner", "(LShardRing;I[J)I"⟩
abbrev cL_home : ByteArray := method_12_code
def yL_home : MethodName := ⟨RL, "home", "(LShardRing;I[J)I"⟩
abbrev cL_state : ByteArray := method_13_code
def yL_state : MethodName := ⟨RL, "state", "(LShardRing;I[J)I"⟩
abbrev cL_holds : ByteArray := method_14_code
def yL_holds : MethodName := ⟨RL, "holds", "(LShardRing;II[J)I"⟩
abbrev cL_size : ByteArray := method_15_code
def yL_size : MethodName := ⟨RL, "size", "(LShardRing;I[J)I"⟩
abbrev cL_key : ByteArray := method_16_code
def yL_key : MethodName := ⟨RL, "key", "(LShardRing;II[J)I"⟩
abbrev cL_points : ByteArray := method_17_code
def yL_points : MethodName := ⟨RL, "points", "(LShardRing;I[J)I"⟩
abbrev cL_count : ByteArray := method_18_code
def yL_count : MethodName := ⟨RL, "count", "(LShardRing;I[J)I"⟩
abbrev cL_share : ByteArray := method_19_code
def yL_share : MethodName := ⟨RL, "share", "(LShardRing;I[J)I"⟩
abbrev cL_law : ByteArray := code
def yL_law : MethodName := ⟨RL, "law", "([I)Z"⟩
abbrev vwCl : List vw_C := [(RX0, TX0, 8), (RX1, TX1, 4), (RX2, TX2, 4), (RX3, TX3, 3), (RX4, TX4, 5), (RX5, TX5, 17)]
