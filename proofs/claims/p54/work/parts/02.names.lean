/-! ===== BEGIN printed: names, fields, word lists, decode rows ===== -/
def RX0 : String := "TrainingDiary$Course"
def TX0 : u_T := fun k => match k with
  | 0 => ("TrainingDiary$Course", "dueEntry", "I", false)
  | 1 => ("TrainingDiary$Course", "missedDays", "I", false)
  | _ => ("TrainingDiary$Course", "droppedEntries", "I", false)
def tyX0 : Nat → FieldType := fun k => match k with
  | 0 => .int
  | 1 => .int
  | _ => .int
abbrev wsX00 : List Cond := u_ws RX0 TX0 3
theorem nmX0 : ∀ a, a < 3 → ∀ b, b < 3 → a ≠ b → (TX0 a).2.1 ≠ (TX0 b).2.1 := by decide +kernel
theorem tyX0_ok : ∀ k, k < 3 → parseFieldDescriptor (TX0 k).2.2.1 = some (tyX0 k) := by decide +kernel
abbrev cX0_init : ByteArray := prog_2_method_1_code
def yX0_init : MethodName := ⟨RX0, "<init>", "()V"⟩
abbrev cX0_follow : ByteArray := prog_2_method_2_code
def yX0_follow : MethodName := ⟨RX0, "follow", "(LTrainingDiary$Plan;I[I)V"⟩
def RX1 : String := "TrainingDiary$History"
def TX1 : u_T := fun k => match k with
  | 0 => ("TrainingDiary$History", "states", "[LTrainingDiary$State;", true)
  | 1 => ("TrainingDiary$History", "next", "I", false)
  | _ => ("TrainingDiary$History", "count", "I", false)
def tyX1 : Nat → FieldType := fun k => match k with
  | 0 => .array (.object "TrainingDiary$State")
  | 1 => .int
  | _ => .int
abbrev wsX10 : List Cond := u_ws RX1 TX1 3
theorem nmX1 : ∀ a, a < 3 → ∀ b, b < 3 → a ≠ b → (TX1 a).2.1 ≠ (TX1 b).2.1 := by decide +kernel
theorem tyX1_ok : ∀ k, k < 3 → parseFieldDescriptor (TX1 k).2.2.1 = some (tyX1 k) := by decide +kernel
abbrev cX1_init : ByteArray := prog_3_method_1_code
def yX1_init : MethodName := ⟨RX1, "<init>", "()V"⟩
abbrev cX1_keep : ByteArray := prog_3_method_2_code
def yX1_keep : MethodName := ⟨RX1, "keep", "(LTrainingDiary$State;)V"⟩
abbrev cX1_takeBack : ByteArray := prog_3_method_3_code
def yX1_takeBack : MethodName := ⟨RX1, "takeBack", "(LTrainingDiary$State;)V"⟩
abbrev cX1_forget : ByteArray := prog_3_method_4_code
def yX1_forget : MethodName := ⟨RX1, "forget", "()V"⟩
def RX2 : String := "TrainingDiary$Plan"
def TX2 : u_T := fun k => match k with
  | 0 => ("TrainingDiary$Plan", "exists", "Z", false)
  | 1 => ("TrainingDiary$Plan", "firstDay", "I", false)
  | 2 => ("TrainingDiary$Plan", "entryCount", "I", false)
  | _ => ("TrainingDiary$Plan", "targets", "[I", true)
def tyX2 : Nat → FieldType := fun k => match k with
  | 0 => .boolean
  | 1 => .int
  | 2 => .int
  | _ => .array .int
abbrev wsX20 : List Cond := u_ws RX2 TX2 4
theorem nmX2 : ∀ a, a < 4 → ∀ b, b < 4 → a ≠ b → (TX2 a).2.1 ≠ (TX2 b).2.1 := by decide +kernel
theorem tyX2_ok : ∀ k, k < 4 → parseFieldDescriptor (TX2 k).2.2.1 = some (tyX2 k) := by decide +kernel
abbrev cX2_init : ByteArray := prog_4_method_1_code
def yX2_init : MethodName := ⟨RX2, "<init>", "()V"⟩
abbrev cX2_copyFrom : ByteArray := prog_4_method_2_code
def yX2_copyFrom : MethodName := ⟨RX2, "copyFrom", "(LTrainingDiary$Plan;)V"⟩
abbrev cX2_start : ByteArray := prog_4_method_3_code
def yX2_start : MethodName := ⟨RX2, "start", "(I)V"⟩
abbrev cX2_append : ByteArray := prog_4_method_4_code
def yX2_append : MethodName := ⟨RX2, "append", "(I)V"⟩
def RX3 : String := "TrainingDiary$Session"
def TX3 : u_T := fun k => match k with
  | 0 => ("TrainingDiary$Session", "id", "I", false)
  | 1 => ("TrainingDiary$Session", "day", "I", false)
  | 2 => ("TrainingDiary$Session", "partCount", "I", false)
  | 3 => ("TrainingDiary$Session", "minutes", "[I", true)
  | _ => ("TrainingDiary$Session", "intensities", "[I", true)
def tyX3 : Nat → FieldType := fun k => match k with
  | 0 => .int
  | 1 => .int
  | 2 => .int
  | 3 => .array .int
  | _ => .array .int
abbrev wsX30 : List Cond := u_ws RX3 TX3 5
theorem nmX3 : ∀ a, a < 5 → ∀ b, b < 5 → a ≠ b → (TX3 a).2.1 ≠ (TX3 b).2.1 := by decide +kernel
theorem tyX3_ok : ∀ k, k < 5 → parseFieldDescriptor (TX3 k).2.2.1 = some (tyX3 k) := by decide +kernel
abbrev cX3_init : ByteArray := prog_5_method_1_code
def yX3_init : MethodName := ⟨RX3, "<init>", "()V"⟩
abbrev cX3_copyFrom : ByteArray := prog_5_method_2_code
def yX3_copyFrom : MethodName := ⟨RX3, "copyFrom", "(LTrainingDiary$Session;)V"⟩
abbrev cX3_comesBefore : ByteArray := prog_5_method_3_code
def yX3_comesBefore : MethodName := ⟨RX3, "comesBefore", "(LTrainingDiary$Session;)Z"⟩
abbrev cX3_append : ByteArray := prog_5_method_4_code
def yX3_append : MethodName := ⟨RX3, "append", "(II)V"⟩
abbrev cX3_length : ByteArray := prog_5_method_5_code
def yX3_length : MethodName := ⟨RX3, "length", "()I"⟩
def RX4 : String := "TrainingDiary$Sessions"
def TX4 : u_T := fun k => match k with
  | 0 => ("TrainingDiary$Sessions", "inOrder", "[LTrainingDiary$Session;", true)
  | 1 => ("TrainingDiary$Sessions", "count", "I", false)
  | _ => ("TrainingDiary$Sessions", "nextId", "I", false)
def tyX4 : Nat → FieldType := fun k => match k with
  | 0 => .array (.object "TrainingDiary$Session")
  | 1 => .int
  | _ => .int
abbrev wsX40 : List Cond := u_ws RX4 TX4 3
theorem nmX4 : ∀ a, a < 3 → ∀ b, b < 3 → a ≠ b → (TX4 a).2.1 ≠ (TX4 b).2.1 := by decide +kernel
theorem tyX4_ok : ∀ k, k < 3 → parseFieldDescriptor (TX4 k).2.2.1 = some (tyX4 k) := by decide +kernel
abbrev cX4_init : ByteArray := prog_6_method_1_code
def yX4_init : MethodName := ⟨RX4, "<init>", "()V"⟩
abbrev cX4_copyFrom : ByteArray := prog_6_method_2_code
def yX4_copyFrom : MethodName := ⟨RX4, "copyFrom", "(LTrainingDiary$Sessions;)V"⟩
abbrev cX4_positionWithId : ByteArray := prog_6_method_3_code
def yX4_positionWithId : MethodName := ⟨RX4, "positionWithId", "(I)I"⟩
abbrev cX4_anyOn : ByteArray := prog_6_method_4_code
def yX4_anyOn : MethodName := ⟨RX4, "anyOn", "(I)Z"⟩
abbrev cX4_add : ByteArray := prog_6_method_6_code
def yX4_add : MethodName := ⟨RX4, "add", "(I)I"⟩
abbrev cX4_moveAt : ByteArray := prog_6_method_7_code
def yX4_moveAt : MethodName := ⟨RX4, "moveAt", "(II)I"⟩
abbrev cX4_removeAt : ByteArray := prog_6_method_8_code
def yX4_removeAt : MethodName := ⟨RX4, "removeAt", "(I)I"⟩
abbrev cX4_settle : ByteArray := prog_6_method_9_code
def yX4_settle : MethodName := ⟨RX4, "settle", "(I)V"⟩
def RX5 : String := "TrainingDiary$State"
def TX5 : u_T := fun k => match k with
  | 0 => ("TrainingDiary$State", "today", "I", false)
  | 1 => ("TrainingDiary$State", "tests", "LTrainingDiary$Tests;", true)
  | 2 => ("TrainingDiary$State", "zones", "LTrainingDiary$Zones;", true)
  | 3 => ("TrainingDiary$State", "sessions", "LTrainingDiary$Sessions;", true)
  | _ => ("TrainingDiary$State", "plan", "LTrainingDiary$Plan;", true)
def tyX5 : Nat → FieldType := fun k => match k with
  | 0 => .int
  | 1 => .object "TrainingDiary$Tests"
  | 2 => .object "TrainingDiary$Zones"
  | 3 => .object "TrainingDiary$Sessions"
  | _ => .object "TrainingDiary$Plan"
abbrev wsX50 : List Cond := u_ws RX5 TX5 5
theorem nmX5 : ∀ a, a < 5 → ∀ b, b < 5 → a ≠ b → (TX5 a).2.1 ≠ (TX5 b).2.1 := by decide +kernel
theorem tyX5_ok : ∀ k, k < 5 → parseFieldDescriptor (TX5 k).2.2.1 = some (tyX5 k) := by decide +kernel
abbrev cX5_init : ByteArray := prog_7_method_1_code
def yX5_init : MethodName := ⟨RX5, "<init>", "()V"⟩
abbrev cX5_copyFrom : ByteArray := prog_7_method_2_code
def yX5_copyFrom : MethodName := ⟨RX5, "copyFrom", "(LTrainingDiary$State;)V"⟩
abbrev cX5_addZoneMinutes : ByteArray := prog_7_method_3_code
def yX5_addZoneMinutes : MethodName := ⟨RX5, "addZoneMinutes", "(LTrainingDiary$Session;[I)V"⟩
abbrev cX5_sessionLoad : ByteArray := prog_7_method_4_code
def yX5_sessionLoad : MethodName := ⟨RX5, "sessionLoad", "(LTrainingDiary$Session;)I"⟩
abbrev cX5_fillSessionLoads : ByteArray := prog_7_method_5_code
def yX5_fillSessionLoads : MethodName := ⟨RX5, "fillSessionLoads", "([I)V"⟩
abbrev cX5_countChangedLoads : ByteArray := prog_7_method_6_code
def yX5_countChangedLoads : MethodName := ⟨RX5, "countChangedLoads", "([I)I"⟩
abbrev cX5_fillDayLoads : ByteArray := prog_7_method_7_code
def yX5_fillDayLoads : MethodName := ⟨RX5, "fillDayLoads", "([I)V"⟩
def RX6 : String := "TrainingDiary$Tests"
def TX6 : u_T := fun k => match k with
  | 0 => ("TrainingDiary$Tests", "days", "[I", true)
  | 1 => ("TrainingDiary$Tests", "thresholds", "[I", true)
  | _ => ("TrainingDiary$Tests", "count", "I", false)
def tyX6 : Nat → FieldType := fun k => match k with
  | 0 => .array .int
  | 1 => .array .int
  | _ => .int
abbrev wsX60 : List Cond := u_ws RX6 TX6 3
theorem nmX6 : ∀ a, a < 3 → ∀ b, b < 3 → a ≠ b → (TX6 a).2.1 ≠ (TX6 b).2.1 := by decide +kernel
theorem tyX6_ok : ∀ k, k < 3 → parseFieldDescriptor (TX6 k).2.2.1 = some (tyX6 k) := by decide +kernel
abbrev cX6_init : ByteArray := prog_8_method_1_code
def yX6_init : MethodName := ⟨RX6, "<init>", "()V"⟩
abbrev cX6_copyFrom : ByteArray := prog_8_method_2_code
def yX6_copyFrom : MethodName := ⟨RX6, "copyFrom", "(LTrainingDiary$Tests;)V"⟩
abbrev cX6_positionOn : ByteArray := prog_8_method_3_code
def yX6_positionOn : MethodName := ⟨RX6, "positionOn", "(I)I"⟩
abbrev cX6_thresholdInForce : ByteArray := prog_8_method_4_code
def yX6_thresholdInForce : MethodName := ⟨RX6, "thresholdInForce", "(I)I"⟩
abbrev cX6_append : ByteArray := prog_8_method_5_code
def yX6_append : MethodName := ⟨RX6, "append", "(II)V"⟩
abbrev cX6_removeAt : ByteArray := prog_8_method_6_code
def yX6_removeAt : MethodName := ⟨RX6, "removeAt", "(I)V"⟩
def RX7 : String := "TrainingDiary$Trend"
def TX7 : u_T := fun k => match k with
  | 0 => ("TrainingDiary$Trend", "fitness", "[I", true)
  | 1 => ("TrainingDiary$Trend", "fatigue", "[I", true)
  | _ => ("TrainingDiary$Trend", "knownDays", "I", false)
def tyX7 : Nat → FieldType := fun k => match k with
  | 0 => .array .int
  | 1 => .array .int
  | _ => .int
abbrev wsX70 : List Cond := u_ws RX7 TX7 3
theorem nmX7 : ∀ a, a < 3 → ∀ b, b < 3 → a ≠ b → (TX7 a).2.1 ≠ (TX7 b).2.1 := by decide +kernel
theorem tyX7_ok : ∀ k, k < 3 → parseFieldDescriptor (TX7 k).2.2.1 = some (tyX7 k) := by decide +kernel
abbrev cX7_init : ByteArray := prog_9_method_1_code
def yX7_init : MethodName := ⟨RX7, "<init>", "()V"⟩
abbrev cX7_forgetFrom : ByteArray := prog_9_method_2_code
def yX7_forgetFrom : MethodName := ⟨RX7, "forgetFrom", "(I)V"⟩
def RX8 : String := "TrainingDiary$Zones"
def TX8 : u_T := fun k => match k with
  | 0 => ("TrainingDiary$Zones", "bounds", "[I", true)
  | _ => ("TrainingDiary$Zones", "weights", "[I", true)
def tyX8 : Nat → FieldType := fun k => match k with
  | 0 => .array .int
  | _ => .array .int
abbrev wsX80 : List Cond := u_ws RX8 TX8 2
theorem nmX8 : ∀ a, a < 2 → ∀ b, b < 2 → a ≠ b → (TX8 a).2.1 ≠ (TX8 b).2.1 := by decide +kernel
theorem tyX8_ok : ∀ k, k < 2 → parseFieldDescriptor (TX8 k).2.2.1 = some (tyX8 k) := by decide +kernel
abbrev cX8_init : ByteArray := prog_10_method_1_code
def yX8_init : MethodName := ⟨RX8, "<init>", "()V"⟩
abbrev cX8_copyFrom : ByteArray := prog_10_method_2_code
def yX8_copyFrom : MethodName := ⟨RX8, "copyFrom", "(LTrainingDiary$Zones;)V"⟩
abbrev cX8_boundsWouldIncrease : ByteArray := prog_10_method_3_code
def yX8_boundsWouldIncrease : MethodName := ⟨RX8, "boundsWouldIncrease", "(II)Z"⟩
abbrev cX8_zoneFor : ByteArray := prog_10_method_4_code
def yX8_zoneFor : MethodName := ⟨RX8, "zoneFor", "(II)I"⟩
def RX9 : String := "TrainingDiary"
def TX9 : u_T := fun k => match k with
  | 0 => ("TrainingDiary", "state", "LTrainingDiary$State;", true)
  | 1 => ("TrainingDiary", "history", "LTrainingDiary$History;", true)
  | 2 => ("TrainingDiary", "snapshot", "LTrainingDiary$State;", true)
  | 3 => ("TrainingDiary", "hasSnapshot", "Z", false)
  | 4 => ("TrainingDiary", "line", "[C", true)
  | 5 => ("TrainingDiary", "lineLength", "I", false)
  | 6 => ("TrainingDiary", "trend", "LTrainingDiary$Trend;", true)
  | 7 => ("TrainingDiary", "course", "LTrainingDiary$Course;", true)
  | 8 => ("TrainingDiary", "dayLoads", "[I", true)
  | 9 => ("TrainingDiary", "sessionLoads", "[I", true)
  | 10 => ("TrainingDiary", "zoneMinutes", "[I", true)
  | _ => ("TrainingDiary", "minuteRow", "[I", true)
def tyX9 : Nat → FieldType := fun k => match k with
  | 0 => .object "TrainingDiary$State"
  | 1 => .object "TrainingDiary$History"
  | 2 => .object "TrainingDiary$State"
  | 3 => .boolean
  | 4 => .array .char
  | 5 => .int
  | 6 => .object "TrainingDiary$Trend"
  | 7 => .object "TrainingDiary$Course"
  | 8 => .array .int
  | 9 => .array .int
  | 10 => .array .int
  | _ => .array .int
abbrev wsX90 : List Cond := u_ws RX9 TX9 12
theorem nmX9 : ∀ a, a < 12 → ∀ b, b < 12 → a ≠ b → (TX9 a).2.1 ≠ (TX9 b).2.1 := by decide +kernel
theorem tyX9_ok : ∀ k, k < 12 → parseFieldDescriptor (TX9 k).2.2.1 = some (tyX9 k) := by decide +kernel
abbrev cX9_init : ByteArray := prog_1_method_1_code
def yX9_init : MethodName := ⟨RX9, "<init>", "()V"⟩
abbrev cX9_pass : ByteArray := prog_1_method_2_code
def yX9_pass : MethodName := ⟨RX9, "pass", "(I)I"⟩
abbrev cX9_today : ByteArray := prog_1_method_3_code
def yX9_today : MethodName := ⟨RX9, "today", "()I"⟩
abbrev cX9_addTest : ByteArray := prog_1_method_4_code
def yX9_addTest : MethodName := ⟨RX9, "addTest", "(II)I"⟩
abbrev cX9_removeTest : ByteArray := prog_1_method_5_code
def yX9_removeTest : MethodName := ⟨RX9, "removeTest", "(I)I"⟩
abbrev cX9_testCount : ByteArray := prog_1_method_6_code
def yX9_testCount : MethodName := ⟨RX9, "testCount", "()I"⟩
abbrev cX9_thresholdOn : ByteArray := prog_1_method_7_code
def yX9_thresholdOn : MethodName := ⟨RX9, "thresholdOn", "(I)I"⟩
abbrev cX9_setBound : ByteArray := prog_1_method_8_code
def yX9_setBound : MethodName := ⟨RX9, "setBound", "(II)I"⟩
abbrev cX9_boundOf : ByteArray := prog_1_method_9_code
def yX9_boundOf : MethodName := ⟨RX9, "boundOf", "(I)I"⟩
abbrev cX9_setWeight : ByteArray := prog_1_method_10_code
def yX9_setWeight : MethodName := ⟨RX9, "setWeight", "(II)I"⟩
abbrev cX9_weightOf : ByteArray := prog_1_method_11_code
def yX9_weightOf : MethodName := ⟨RX9, "weightOf", "(I)I"⟩
abbrev cX9_zoneOf : ByteArray := prog_1_method_12_code
def yX9_zoneOf : MethodName := ⟨RX9, "zoneOf", "(II)I"⟩
abbrev cX9_addSession : ByteArray := prog_1_method_13_code
def yX9_addSession : MethodName := ⟨RX9, "addSession", "(I)I"⟩
abbrev cX9_addPart : ByteArray := prog_1_method_14_code
def yX9_addPart : MethodName := ⟨RX9, "addPart", "(III)I"⟩
abbrev cX9_clearParts : ByteArray := prog_1_method_15_code
def yX9_clearParts : MethodName := ⟨RX9, "clearParts", "(I)I"⟩
abbrev cX9_moveSession : ByteArray := prog_1_method_16_code
def yX9_moveSession : MethodName := ⟨RX9, "moveSession", "(II)I"⟩
abbrev cX9_removeSession : ByteArray := prog_1_method_17_code
def yX9_removeSession : MethodName := ⟨RX9, "removeSession", "(I)I"⟩
abbrev cX9_sessionCount : ByteArray := prog_1_method_18_code
def yX9_sessionCount : MethodName := ⟨RX9, "sessionCount", "()I"⟩
abbrev cX9_sessionAt : ByteArray := prog_1_method_19_code
def yX9_sessionAt : MethodName := ⟨RX9, "sessionAt", "(I)I"⟩
abbrev cX9_dayOf : ByteArray := prog_1_method_20_code
def yX9_dayOf : MethodName := ⟨RX9, "dayOf", "(I)I"⟩
abbrev cX9_minutesOf : ByteArray := prog_1_method_21_code
def yX9_minutesOf : MethodName := ⟨RX9, "minutesOf", "(I)I"⟩
abbrev cX9_minutesInZone : ByteArray := prog_1_method_22_code
def yX9_minutesInZone : MethodName := ⟨RX9, "minutesInZone", "(II)I"⟩
abbrev cX9_loadOf : ByteArray := prog_1_method_23_code
def yX9_loadOf : MethodName := ⟨RX9, "loadOf", "(I)I"⟩
abbrev cX9_loadOn : ByteArray := prog_1_method_24_code
def yX9_loadOn : MethodName := ⟨RX9, "loadOn", "(I)I"⟩
abbrev cX9_zoneShare : ByteArray := prog_1_method_25_code
def yX9_zoneShare : MethodName := ⟨RX9, "zoneShare", "(I)F"⟩
abbrev cX9_startPlan : ByteArray := prog_1_method_40_code
def yX9_startPlan : MethodName := ⟨RX9, "startPlan", "()I"⟩
abbrev cX9_addTarget : ByteArray := prog_1_method_41_code
def yX9_addTarget : MethodName := ⟨RX9, "addTarget", "(I)I"⟩
abbrev cX9_targetAt : ByteArray := prog_1_method_42_code
def yX9_targetAt : MethodName := ⟨RX9, "targetAt", "(I)I"⟩
abbrev cX9_dueEntry : ByteArray := prog_1_method_43_code
def yX9_dueEntry : MethodName := ⟨RX9, "dueEntry", "()I"⟩
abbrev cX9_missedDays : ByteArray := prog_1_method_44_code
def yX9_missedDays : MethodName := ⟨RX9, "missedDays", "()I"⟩
abbrev cX9_droppedEntries : ByteArray := prog_1_method_45_code
def yX9_droppedEntries : MethodName := ⟨RX9, "droppedEntries", "()I"⟩
abbrev cX9_planEnd : ByteArray := prog_1_method_46_code
def yX9_planEnd : MethodName := ⟨RX9, "planEnd", "()I"⟩
abbrev cX9_isPlanOver : ByteArray := prog_1_method_47_code
def yX9_isPlanOver : MethodName := ⟨RX9, "isPlanOver", "()Z"⟩
abbrev cX9_writeWeek : ByteArray := prog_1_method_48_code
def yX9_writeWeek : MethodName := ⟨RX9, "writeWeek", "(I)I"⟩
abbrev cX9_lineAt : ByteArray := prog_1_method_49_code
def yX9_lineAt : MethodName := ⟨RX9, "lineAt", "(I)C"⟩
abbrev cX9_undo : ByteArray := prog_1_method_50_code
def yX9_undo : MethodName := ⟨RX9, "undo", "()I"⟩
abbrev cX9_save : ByteArray := prog_1_method_51_code
def yX9_save : MethodName := ⟨RX9, "save", "()I"⟩
abbrev cX9_restore : ByteArray := prog_1_method_52_code
def yX9_restore : MethodName := ⟨RX9, "restore", "()I"⟩
abbrev cX9_requireRange : ByteArray := prog_1_method_53_code
def yX9_requireRange : MethodName := ⟨RX9, "requireRange", "(III)V"⟩
abbrev cX9_requireZone : ByteArray := prog_1_method_54_code
def yX9_requireZone : MethodName := ⟨RX9, "requireZone", "(I)V"⟩
abbrev cX9_requireDayUpToToday : ByteArray := prog_1_method_55_code
def yX9_requireDayUpToToday : MethodName := ⟨RX9, "requireDayUpToToday", "(I)V"⟩
abbrev cX9_existingPosition : ByteArray := prog_1_method_58_code
def yX9_existingPosition : MethodName := ⟨RX9, "existingPosition", "(I)I"⟩
abbrev cX9_existingSession : ByteArray := prog_1_method_59_code
def yX9_existingSession : MethodName := ⟨RX9, "existingSession", "(I)LTrainingDiary$Session;"⟩
abbrev cX9_clear : ByteArray := prog_1_method_60_code
def yX9_clear : MethodName := ⟨RX9, "clear", "([I)V"⟩
abbrev cX9_followPlan : ByteArray := prog_1_method_69_code
def yX9_followPlan : MethodName := ⟨RX9, "followPlan", "()V"⟩
abbrev cX9_existingDueEntry : ByteArray := prog_1_method_70_code
def yX9_existingDueEntry : MethodName := ⟨RX9, "existingDueEntry", "()I"⟩
abbrev cX9_signOfDay : ByteArray := prog_1_method_71_code
def yX9_signOfDay : MethodName := ⟨RX9, "signOfDay", "(I)C"⟩
def RX10 : String := "TrainingDiaryModel"
def TX10 : u_T := fun k => match k with
  | _ => ("", "", "", false)
def tyX10 : Nat → FieldType := fun k => match k with
  | _ => .int
abbrev wsX100 : List Cond := u_ws RX10 TX10 0
theorem nmX10 : ∀ a, a < 0 → ∀ b, b < 0 → a ≠ b → (TX10 a).2.1 ≠ (TX10 b).2.1 := by decide +kernel
theorem tyX10_ok : ∀ k, k < 0 → parseFieldDescriptor (TX10 k).2.2.1 = some (tyX10 k) := by decide +kernel
def RJx145de : String := "java/io/Serializable"
def TJx145de : u_T := fun k => match k with
  | _ => ("", "", "", false)
def tyJx145de : Nat → FieldType := fun k => match k with
  | _ => .int
abbrev wsJx145de0 : List Cond := u_ws RJx145de TJx145de 0
theorem nmJx145de : ∀ a, a < 0 → ∀ b, b < 0 → a ≠ b → (TJx145de a).2.1 ≠ (TJx145de b).2.1 := by decide +kernel
theorem tyJx145de_ok : ∀ k, k < 0 → parseFieldDescriptor (TJx145de k).2.2.1 = some (tyJx145de k) := by decide +kernel
def RJx00060 : String := "java/lang/ArrayIndexOutOfBoundsException"
def TJx00060 : u_T := fun k => match k with
  | 0 => ("java/lang/Throwable", "backtrace", "Ljava/lang/Object;", false)
  | 1 => ("java/lang/Throwable", "detailMessage", "Ljava/lang/String;", false)
  | 2 => ("java/lang/Throwable", "cause", "Ljava/lang/Throwable;", false)
  | 3 => ("java/lang/Throwable", "stackTrace", "[Ljava/lang/StackTraceElement;", false)
  | 4 => ("java/lang/Throwable", "depth", "I", false)
  | _ => ("java/lang/Throwable", "suppressedExceptions", "Ljava/util/List;", false)
def tyJx00060 : Nat → FieldType := fun k => match k with
  | 0 => .object "java/lang/Object"
  | 1 => .object "java/lang/String"
  | 2 => .object "java/lang/Throwable"
  | 3 => .array (.object "java/lang/StackTraceElement")
  | 4 => .int
  | _ => .object "java/util/List"
abbrev wsJx000600 : List Cond := u_ws RJx00060 TJx00060 6
theorem nmJx00060 : ∀ a, a < 6 → ∀ b, b < 6 → a ≠ b → (TJx00060 a).2.1 ≠ (TJx00060 b).2.1 := by decide +kernel
theorem tyJx00060_ok : ∀ k, k < 6 → parseFieldDescriptor (TJx00060 k).2.2.1 = some (tyJx00060 k) := by decide +kernel
abbrev cJx00060_init_a7421 : ByteArray := prog_15_method_2_code
def yJx00060_init_a7421 : MethodName := ⟨RJx00060, "<init>", "(Ljava/lang/String;)V"⟩
def RJx8e188 : String := "java/lang/Cloneable"
def TJx8e188 : u_T := fun k => match k with
  | _ => ("", "", "", false)
def tyJx8e188 : Nat → FieldType := fun k => match k with
  | _ => .int
abbrev wsJx8e1880 : List Cond := u_ws RJx8e188 TJx8e188 0
theorem nmJx8e188 : ∀ a, a < 0 → ∀ b, b < 0 → a ≠ b → (TJx8e188 a).2.1 ≠ (TJx8e188 b).2.1 := by decide +kernel
theorem tyJx8e188_ok : ∀ k, k < 0 → parseFieldDescriptor (TJx8e188 k).2.2.1 = some (tyJx8e188 k) := by decide +kernel
def RJ9 : String := "java/lang/Math"
def TJ9 : u_T := fun k => match k with
  | _ => ("", "", "", false)
def tyJ9 : Nat → FieldType := fun k => match k with
  | _ => .int
abbrev wsJ90 : List Cond := u_ws RJ9 TJ9 0
theorem nmJ9 : ∀ a, a < 0 → ∀ b, b < 0 → a ≠ b → (TJ9 a).2.1 ≠ (TJ9 b).2.1 := by decide +kernel
theorem tyJ9_ok : ∀ k, k < 0 → parseFieldDescriptor (TJ9 k).2.2.1 = some (tyJ9 k) := by decide +kernel
abbrev cJ9_max_7cf53 : ByteArray := prog_21_method_65_code
def yJ9_max_7cf53 : MethodName := ⟨RJ9, "max", "(II)I"⟩
abbrev cJ9_min_7cf53 : ByteArray := prog_21_method_69_code
def yJ9_min_7cf53 : MethodName := ⟨RJ9, "min", "(II)I"⟩
def RJ0 : String := "java/lang/String"
def TJ0 : u_T := fun k => match k with
  | 0 => ("java/lang/String", "value", "[B", true)
  | _ => ("java/lang/String", "coder", "B", true)
def tyJ0 : Nat → FieldType := fun k => match k with
  | 0 => .array .byte
  | _ => .byte
abbrev wsJ00 : List Cond := u_ws RJ0 TJ0 2
theorem nmJ0 : ∀ a, a < 2 → ∀ b, b < 2 → a ≠ b → (TJ0 a).2.1 ≠ (TJ0 b).2.1 := by decide +kernel
theorem tyJ0_ok : ∀ k, k < 2 → parseFieldDescriptor (TJ0 k).2.2.1 = some (tyJ0 k) := by decide +kernel
def RJ10 : String := "java/lang/System"
def TJ10 : u_T := fun k => match k with
  | _ => ("", "", "", false)
def tyJ10 : Nat → FieldType := fun k => match k with
  | _ => .int
abbrev wsJ100 : List Cond := u_ws RJ10 TJ10 0
theorem nmJ10 : ∀ a, a < 0 → ∀ b, b < 0 → a ≠ b → (TJ10 a).2.1 ≠ (TJ10 b).2.1 := by decide +kernel
theorem tyJ10_ok : ∀ k, k < 0 → parseFieldDescriptor (TJ10 k).2.2.1 = some (tyJ10 k) := by decide +kernel
def RL : String := "TrainingDiaryLaw"
abbrev cL_cell : ByteArray := method_2_code
def yL_cell : MethodName := ⟨RL, "cell", "([II)I"⟩
abbrev cL_pass : ByteArray := method_3_code
def yL_pass : MethodName := ⟨RL, "pass", "(LTrainingDiary;I)I"⟩
abbrev cL_addTest : ByteArray := method_4_code
def yL_addTest : MethodName := ⟨RL, "addTest", "(LTrainingDiary;II)I"⟩
abbrev cL_removeTest : ByteArray := method_5_code
def yL_removeTest : MethodName := ⟨RL, "removeTest", "(LTrainingDiary;I)I"⟩
abbrev cL_thresholdOn : ByteArray := method_6_code
def yL_thresholdOn : MethodName := ⟨RL, "thresholdOn", "(LTrainingDiary;I)I"⟩
abbrev cL_setBound : ByteArray := method_7_code
def yL_setBound : MethodName := ⟨RL, "setBound", "(LTrainingDiary;II)I"⟩
abbrev cL_boundOf : ByteArray := method_8_code
def yL_boundOf : MethodName := ⟨RL, "boundOf", "(LTrainingDiary;I)I"⟩
abbrev cL_setWeight : ByteArray := method_9_code
def yL_setWeight : MethodName := ⟨RL, "setWeight", "(LTrainingDiary;II)I"⟩
abbrev cL_weightOf : ByteArray := method_10_code
def yL_weightOf : MethodName := ⟨RL, "weightOf", "(LTrainingDiary;I)I"⟩
abbrev cL_zoneOf : ByteArray := method_11_code
def yL_zoneOf : MethodName := ⟨RL, "zoneOf", "(LTrainingDiary;II)I"⟩
abbrev cL_addSession : ByteArray := method_12_code
def yL_addSession : MethodName := ⟨RL, "addSession", "(LTrainingDiary;I)I"⟩
abbrev cL_addPart : ByteArray := method_13_code
def yL_addPart : MethodName := ⟨RL, "addPart", "(LTrainingDiary;III)I"⟩
abbrev cL_clearParts : ByteArray := method_14_code
def yL_clearParts : MethodName := ⟨RL, "clearParts", "(LTrainingDiary;I)I"⟩
abbrev cL_moveSession : ByteArray := method_15_code
def yL_moveSession : MethodName := ⟨RL, "moveSession", "(LTrainingDiary;II)I"⟩
abbrev cL_removeSession : ByteArray := method_16_code
def yL_removeSession : MethodName := ⟨RL, "removeSession", "(LTrainingDiary;I)I"⟩
abbrev cL_sessionAt : ByteArray := method_17_code
def yL_sessionAt : MethodName := ⟨RL, "sessionAt", "(LTrainingDiary;I)I"⟩
abbrev cL_dayOf : ByteArray := method_18_code
def yL_dayOf : MethodName := ⟨RL, "dayOf", "(LTrainingDiary;I)I"⟩
abbrev cL_minutesOf : ByteArray := method_19_code
def yL_minutesOf : MethodName := ⟨RL, "minutesOf", "(LTrainingDiary;I)I"⟩
abbrev cL_minutesInZone : ByteArray := method_20_code
def yL_minutesInZone : MethodName := ⟨RL, "minutesInZone", "(LTrainingDiary;II)I"⟩
abbrev cL_loadOf : ByteArray := method_21_code
def yL_loadOf : MethodName := ⟨RL, "loadOf", "(LTrainingDiary;I)I"⟩
abbrev cL_loadOn : ByteArray := method_22_code
def yL_loadOn : MethodName := ⟨RL, "loadOn", "(LTrainingDiary;I)I"⟩
abbrev cL_zoneShare : ByteArray := method_23_code
def yL_zoneShare : MethodName := ⟨RL, "zoneShare", "(LTrainingDiary;I)F"⟩
abbrev cL_addTarget : ByteArray := method_24_code
def yL_addTarget : MethodName := ⟨RL, "addTarget", "(LTrainingDiary;I)I"⟩
abbrev cL_targetAt : ByteArray := method_25_code
def yL_targetAt : MethodName := ⟨RL, "targetAt", "(LTrainingDiary;I)I"⟩
abbrev cL_dueEntry : ByteArray := method_26_code
def yL_dueEntry : MethodName := ⟨RL, "dueEntry", "(LTrainingDiary;)I"⟩
abbrev cL_planEnd : ByteArray := method_27_code
def yL_planEnd : MethodName := ⟨RL, "planEnd", "(LTrainingDiary;)I"⟩
abbrev cL_writeWeek : ByteArray := method_28_code
def yL_writeWeek : MethodName := ⟨RL, "writeWeek", "(LTrainingDiary;I)I"⟩
abbrev cL_lineAt : ByteArray := method_29_code
def yL_lineAt : MethodName := ⟨RL, "lineAt", "(LTrainingDiary;I)I"⟩
abbrev cL_undo : ByteArray := method_30_code
def yL_undo : MethodName := ⟨RL, "undo", "(LTrainingDiary;)I"⟩
abbrev cL_restore : ByteArray := method_31_code
def yL_restore : MethodName := ⟨RL, "restore", "(LTrainingDiary;)I"⟩
abbrev cL_in : ByteArray := method_32_code
def yL_in : MethodName := ⟨RL, "in", "([III)I"⟩
abbrev cL_begun : ByteArray := method_33_code
def yL_begun : MethodName := ⟨RL, "begun", "()[I"⟩
abbrev cL_copy : ByteArray := method_34_code
def yL_copy : MethodName := ⟨RL, "copy", "([I)[I"⟩
abbrev cL_threshold : ByteArray := method_35_code
def yL_threshold : MethodName := ⟨RL, "threshold", "([II)I"⟩
abbrev cL_zone : ByteArray := method_36_code
def yL_zone : MethodName := ⟨RL, "zone", "([III)I"⟩
abbrev cL_minutes : ByteArray := method_37_code
def yL_minutes : MethodName := ⟨RL, "minutes", "([III)I"⟩
abbrev cL_load : ByteArray := method_38_code
def yL_load : MethodName := ⟨RL, "load", "([II)I"⟩
abbrev cL_loadOf_ : ByteArray := method_39_code
def yL_loadOf_ : MethodName := ⟨RL, "loadOf", "([II)I"⟩
abbrev cL_place : ByteArray := method_40_code
def yL_place : MethodName := ⟨RL, "place", "([II)I"⟩
abbrev cL_ranked : ByteArray := method_41_code
def yL_ranked : MethodName := ⟨RL, "ranked", "([II)I"⟩
abbrev cL_isDone : ByteArray := method_42_code
def yL_isDone : MethodName := ⟨RL, "isDone", "(LTrainingDiary;[I[[I[II)Z"⟩
abbrev cL_isTold : ByteArray := method_43_code
def yL_isTold : MethodName := ⟨RL, "isTold", "(LTrainingDiary;[I[II)Z"⟩
abbrev cL_isTest : ByteArray := method_44_code
def yL_isTest : MethodName := ⟨RL, "isTest", "(LTrainingDiary;[III)Z"⟩
abbrev cL_isNoTest : ByteArray := method_45_code
def yL_isNoTest : MethodName := ⟨RL, "isNoTest", "(LTrainingDiary;[II)Z"⟩
abbrev cL_isBound : ByteArray := method_46_code
def yL_isBound : MethodName := ⟨RL, "isBound", "(LTrainingDiary;[III)Z"⟩
abbrev cL_isSession : ByteArray := method_47_code
def yL_isSession : MethodName := ⟨RL, "isSession", "(LTrainingDiary;[II)Z"⟩
abbrev cL_isPart : ByteArray := method_48_code
def yL_isPart : MethodName := ⟨RL, "isPart", "(LTrainingDiary;[IIII)Z"⟩
abbrev cL_isMoved : ByteArray := method_49_code
def yL_isMoved : MethodName := ⟨RL, "isMoved", "(LTrainingDiary;[III)Z"⟩
abbrev cL_isRemoved : ByteArray := method_50_code
def yL_isRemoved : MethodName := ⟨RL, "isRemoved", "(LTrainingDiary;[IIZ)Z"⟩
abbrev cL_isTarget : ByteArray := method_51_code
def yL_isTarget : MethodName := ⟨RL, "isTarget", "(LTrainingDiary;[II)Z"⟩
abbrev cL_areSessions : ByteArray := method_52_code
def yL_areSessions : MethodName := ⟨RL, "areSessions", "(LTrainingDiary;[I)Z"⟩
abbrev cL_isPlan : ByteArray := method_53_code
def yL_isPlan : MethodName := ⟨RL, "isPlan", "(LTrainingDiary;[I)Z"⟩
abbrev cL_isWeek : ByteArray := method_54_code
def yL_isWeek : MethodName := ⟨RL, "isWeek", "(LTrainingDiary;[II)Z"⟩
abbrev cL_law : ByteArray := code
def yL_law : MethodName := ⟨RL, "law", "([I)Z"⟩
abbrev vwCl : List vw_C := [(RJ0, TJ0, 2), (RJx00060, TJx00060, 6), (RX0, TX0, 3), (RX1, TX1, 3), (RX2, TX2, 4), (RX3, TX3, 5), (RX4, TX4, 3), (RX5, TX5, 5), (RX6, TX6, 3), (RX7, TX7, 3), (RX8, TX8, 2), (RX9, TX9, 12)]
