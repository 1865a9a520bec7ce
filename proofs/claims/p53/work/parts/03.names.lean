/-! ===== BEGIN printed: names, fields, word lists, decode rows ===== -/
def RX0 : String := "WaveUpgrade$1"
def TX0 : u_T := fun k => match k with
  | _ => ("", "", "", false)
def tyX0 : Nat → FieldType := fun k => match k with
  | _ => .int
abbrev wsX00 : List Cond := u_ws RX0 TX0 0
theorem nmX0 : ∀ a, a < 0 → ∀ b, b < 0 → a ≠ b → (TX0 a).2.1 ≠ (TX0 b).2.1 := by decide +kernel
theorem tyX0_ok : ∀ k, k < 0 → parseFieldDescriptor (TX0 k).2.2.1 = some (tyX0 k) := by decide +kernel
def RX1 : String := "WaveUpgrade$ClusterReader"
def TX1 : u_T := fun k => match k with
  | 0 => ("WaveUpgrade$ClusterReader", "text", "LWaveUpgrade$Text;", true)
  | 1 => ("WaveUpgrade$ClusterReader", "draft", "LWaveUpgrade$State;", true)
  | 2 => ("WaveUpgrade$ClusterReader", "layout", "LWaveUpgrade$Layout;", true)
  | _ => ("WaveUpgrade$ClusterReader", "told", "I", false)
def tyX1 : Nat → FieldType := fun k => match k with
  | 0 => .object "WaveUpgrade$Text"
  | 1 => .object "WaveUpgrade$State"
  | 2 => .object "WaveUpgrade$Layout"
  | _ => .int
abbrev wsX10 : List Cond := u_ws RX1 TX1 4
theorem nmX1 : ∀ a, a < 4 → ∀ b, b < 4 → a ≠ b → (TX1 a).2.1 ≠ (TX1 b).2.1 := by decide +kernel
theorem tyX1_ok : ∀ k, k < 4 → parseFieldDescriptor (TX1 k).2.2.1 = some (tyX1 k) := by decide +kernel
abbrev cX1_init : ByteArray := prog_3_method_1_code
def yX1_init : MethodName := ⟨RX1, "<init>", "(LWaveUpgrade$Text;LWaveUpgrade$State;)V"⟩
abbrev cX1_readAll : ByteArray := prog_3_method_2_code
def yX1_readAll : MethodName := ⟨RX1, "readAll", "()Z"⟩
abbrev cX1_readStatement : ByteArray := prog_3_method_3_code
def yX1_readStatement : MethodName := ⟨RX1, "readStatement", "()Z"⟩
abbrev cX1_errorOfFirstWord : ByteArray := prog_3_method_4_code
def yX1_errorOfFirstWord : MethodName := ⟨RX1, "errorOfFirstWord", "(LWaveUpgrade$Statement;)I"⟩
abbrev cX1_readRest : ByteArray := prog_3_method_5_code
def yX1_readRest : MethodName := ⟨RX1, "readRest", "(LWaveUpgrade$Statement;)Z"⟩
abbrev cX1_readVersion : ByteArray := prog_3_method_6_code
def yX1_readVersion : MethodName := ⟨RX1, "readVersion", "()Z"⟩
abbrev cX1_readTalks : ByteArray := prog_3_method_7_code
def yX1_readTalks : MethodName := ⟨RX1, "readTalks", "()Z"⟩
abbrev cX1_readPlace : ByteArray := prog_3_method_8_code
def yX1_readPlace : MethodName := ⟨RX1, "readPlace", "()Z"⟩
abbrev cX1_readMember : ByteArray := prog_3_method_9_code
def yX1_readMember : MethodName := ⟨RX1, "readMember", "()Z"⟩
abbrev cX1_readLink : ByteArray := prog_3_method_10_code
def yX1_readLink : MethodName := ⟨RX1, "readLink", "()Z"⟩
abbrev cX1_readWave : ByteArray := prog_3_method_11_code
def yX1_readWave : MethodName := ⟨RX1, "readWave", "()Z"⟩
abbrev cX1_readPlaceOfWave : ByteArray := prog_3_method_12_code
def yX1_readPlaceOfWave : MethodName := ⟨RX1, "readPlaceOfWave", "(I)Z"⟩
abbrev cX1_readSetting : ByteArray := prog_3_method_13_code
def yX1_readSetting : MethodName := ⟨RX1, "readSetting", "(LWaveUpgrade$Statement;)Z"⟩
def RX2 : String := "WaveUpgrade$Command"
def TX2 : u_T := fun k => match k with
  | _ => ("", "", "", false)
def tyX2 : Nat → FieldType := fun k => match k with
  | _ => .int
abbrev wsX20 : List Cond := u_ws RX2 TX2 0
theorem nmX2 : ∀ a, a < 0 → ∀ b, b < 0 → a ≠ b → (TX2 a).2.1 ≠ (TX2 b).2.1 := by decide +kernel
theorem tyX2_ok : ∀ k, k < 0 → parseFieldDescriptor (TX2 k).2.2.1 = some (tyX2 k) := by decide +kernel
def RX3 : String := "WaveUpgrade$Events"
def TX3 : u_T := fun k => match k with
  | 0 => ("WaveUpgrade$Events", "cells", "[I", true)
  | 1 => ("WaveUpgrade$Events", "count", "I", false)
  | _ => ("WaveUpgrade$Events", "newest", "I", false)
def tyX3 : Nat → FieldType := fun k => match k with
  | 0 => .array .int
  | 1 => .int
  | _ => .int
abbrev wsX30 : List Cond := u_ws RX3 TX3 3
theorem nmX3 : ∀ a, a < 3 → ∀ b, b < 3 → a ≠ b → (TX3 a).2.1 ≠ (TX3 b).2.1 := by decide +kernel
theorem tyX3_ok : ∀ k, k < 3 → parseFieldDescriptor (TX3 k).2.2.1 = some (tyX3 k) := by decide +kernel
abbrev cX3_init : ByteArray := prog_5_method_1_code
def yX3_init : MethodName := ⟨RX3, "<init>", "()V"⟩
abbrev cX3_copyFrom : ByteArray := prog_5_method_2_code
def yX3_copyFrom : MethodName := ⟨RX3, "copyFrom", "(LWaveUpgrade$Events;)V"⟩
abbrev cX3_add : ByteArray := prog_5_method_3_code
def yX3_add : MethodName := ⟨RX3, "add", "(IIII)V"⟩
abbrev cX3_cellOf : ByteArray := prog_5_method_4_code
def yX3_cellOf : MethodName := ⟨RX3, "cellOf", "(II)I"⟩
def RX4 : String := "WaveUpgrade$History"
def TX4 : u_T := fun k => match k with
  | 0 => ("WaveUpgrade$History", "row", "[LWaveUpgrade$State;", true)
  | 1 => ("WaveUpgrade$History", "count", "I", false)
  | _ => ("WaveUpgrade$History", "newest", "I", false)
def tyX4 : Nat → FieldType := fun k => match k with
  | 0 => .array (.object "WaveUpgrade$State")
  | 1 => .int
  | _ => .int
abbrev wsX40 : List Cond := u_ws RX4 TX4 3
theorem nmX4 : ∀ a, a < 3 → ∀ b, b < 3 → a ≠ b → (TX4 a).2.1 ≠ (TX4 b).2.1 := by decide +kernel
theorem tyX4_ok : ∀ k, k < 3 → parseFieldDescriptor (TX4 k).2.2.1 = some (tyX4 k) := by decide +kernel
abbrev cX4_init : ByteArray := prog_6_method_1_code
def yX4_init : MethodName := ⟨RX4, "<init>", "(LWaveUpgrade$Layout;)V"⟩
abbrev cX4_keep : ByteArray := prog_6_method_2_code
def yX4_keep : MethodName := ⟨RX4, "keep", "(LWaveUpgrade$State;)V"⟩
abbrev cX4_takeBack : ByteArray := prog_6_method_3_code
def yX4_takeBack : MethodName := ⟨RX4, "takeBack", "(LWaveUpgrade$State;)V"⟩
abbrev cX4_forget : ByteArray := prog_6_method_4_code
def yX4_forget : MethodName := ⟨RX4, "forget", "()V"⟩
def RX5 : String := "WaveUpgrade$Layout"
def TX5 : u_T := fun k => match k with
  | 0 => ("WaveUpgrade$Layout", "versions", "LWaveUpgrade$Names;", true)
  | 1 => ("WaveUpgrade$Layout", "lowest", "[I", true)
  | 2 => ("WaveUpgrade$Layout", "highest", "[I", true)
  | 3 => ("WaveUpgrade$Layout", "talkSets", "[I", true)
  | 4 => ("WaveUpgrade$Layout", "places", "LWaveUpgrade$Names;", true)
  | 5 => ("WaveUpgrade$Layout", "waveOfPlace", "[I", true)
  | 6 => ("WaveUpgrade$Layout", "placeSets", "[I", true)
  | 7 => ("WaveUpgrade$Layout", "waveSets", "[I", true)
  | 8 => ("WaveUpgrade$Layout", "members", "LWaveUpgrade$Names;", true)
  | 9 => ("WaveUpgrade$Layout", "placeOf", "[I", true)
  | 10 => ("WaveUpgrade$Layout", "partnersOf", "[I", true)
  | 11 => ("WaveUpgrade$Layout", "links", "I", false)
  | 12 => ("WaveUpgrade$Layout", "waves", "I", false)
  | 13 => ("WaveUpgrade$Layout", "skew", "I", false)
  | 14 => ("WaveUpgrade$Layout", "mostDown", "I", false)
  | 15 => ("WaveUpgrade$Layout", "takes", "I", false)
  | 16 => ("WaveUpgrade$Layout", "soak", "I", false)
  | _ => ("WaveUpgrade$Layout", "limit", "I", false)
def tyX5 : Nat → FieldType := fun k => match k with
  | 0 => .object "WaveUpgrade$Names"
  | 1 => .array .int
  | 2 => .array .int
  | 3 => .array .int
  | 4 => .object "WaveUpgrade$Names"
  | 5 => .array .int
  | 6 => .array .int
  | 7 => .array .int
  | 8 => .object "WaveUpgrade$Names"
  | 9 => .array .int
  | 10 => .array .int
  | 11 => .int
  | 12 => .int
  | 13 => .int
  | 14 => .int
  | 15 => .int
  | 16 => .int
  | _ => .int
abbrev wsX50 : List Cond := u_ws RX5 TX5 18
theorem nmX5 : ∀ a, a < 18 → ∀ b, b < 18 → a ≠ b → (TX5 a).2.1 ≠ (TX5 b).2.1 := by decide +kernel
theorem tyX5_ok : ∀ k, k < 18 → parseFieldDescriptor (TX5 k).2.2.1 = some (tyX5 k) := by decide +kernel
abbrev cX5_init : ByteArray := prog_7_method_1_code
def yX5_init : MethodName := ⟨RX5, "<init>", "()V"⟩
abbrev cX5_reset : ByteArray := prog_7_method_2_code
def yX5_reset : MethodName := ⟨RX5, "reset", "()V"⟩
abbrev cX5_copyFrom : ByteArray := prog_7_method_3_code
def yX5_copyFrom : MethodName := ⟨RX5, "copyFrom", "(LWaveUpgrade$Layout;)V"⟩
abbrev cX5_numberOf : ByteArray := prog_7_method_4_code
def yX5_numberOf : MethodName := ⟨RX5, "numberOf", "(I)I"⟩
abbrev cX5_addVersion : ByteArray := prog_7_method_5_code
def yX5_addVersion : MethodName := ⟨RX5, "addVersion", "(JII)V"⟩
abbrev cX5_addTalk : ByteArray := prog_7_method_6_code
def yX5_addTalk : MethodName := ⟨RX5, "addTalk", "(II)V"⟩
abbrev cX5_addPlace : ByteArray := prog_7_method_7_code
def yX5_addPlace : MethodName := ⟨RX5, "addPlace", "(J)V"⟩
abbrev cX5_addWave : ByteArray := prog_7_method_8_code
def yX5_addWave : MethodName := ⟨RX5, "addWave", "()V"⟩
abbrev cX5_addToWave : ByteArray := prog_7_method_9_code
def yX5_addToWave : MethodName := ⟨RX5, "addToWave", "(II)V"⟩
abbrev cX5_addMember : ByteArray := prog_7_method_10_code
def yX5_addMember : MethodName := ⟨RX5, "addMember", "(JI)V"⟩
abbrev cX5_addLink : ByteArray := prog_7_method_11_code
def yX5_addLink : MethodName := ⟨RX5, "addLink", "(II)V"⟩
abbrev cX5_join : ByteArray := prog_7_method_12_code
def yX5_join : MethodName := ⟨RX5, "join", "(II)V"⟩
abbrev cX5_talkersOf : ByteArray := prog_7_method_13_code
def yX5_talkersOf : MethodName := ⟨RX5, "talkersOf", "(I)I"⟩
abbrev cX5_isReader : ByteArray := prog_7_method_14_code
def yX5_isReader : MethodName := ⟨RX5, "isReader", "(II)Z"⟩
abbrev cX5_readersOf : ByteArray := prog_7_method_15_code
def yX5_readersOf : MethodName := ⟨RX5, "readersOf", "(I)I"⟩
abbrev cX5_everyMember : ByteArray := prog_7_method_16_code
def yX5_everyMember : MethodName := ⟨RX5, "everyMember", "()I"⟩
abbrev cX5_neighboursOf : ByteArray := prog_7_method_17_code
def yX5_neighboursOf : MethodName := ⟨RX5, "neighboursOf", "(I)I"⟩
abbrev cX5_waveOf : ByteArray := prog_7_method_18_code
def yX5_waveOf : MethodName := ⟨RX5, "waveOf", "(I)I"⟩
abbrev cX5_plannedMembers : ByteArray := prog_7_method_19_code
def yX5_plannedMembers : MethodName := ⟨RX5, "plannedMembers", "()I"⟩
def RX6 : String := "WaveUpgrade$Names"
def TX6 : u_T := fun k => match k with
  | 0 => ("WaveUpgrade$Names", "row", "[J", true)
  | _ => ("WaveUpgrade$Names", "count", "I", false)
def tyX6 : Nat → FieldType := fun k => match k with
  | 0 => .array .long
  | _ => .int
abbrev wsX60 : List Cond := u_ws RX6 TX6 2
theorem nmX6 : ∀ a, a < 2 → ∀ b, b < 2 → a ≠ b → (TX6 a).2.1 ≠ (TX6 b).2.1 := by decide +kernel
theorem tyX6_ok : ∀ k, k < 2 → parseFieldDescriptor (TX6 k).2.2.1 = some (tyX6 k) := by decide +kernel
abbrev cX6_init : ByteArray := prog_8_method_1_code
def yX6_init : MethodName := ⟨RX6, "<init>", "(I)V"⟩
abbrev cX6_copyFrom : ByteArray := prog_8_method_2_code
def yX6_copyFrom : MethodName := ⟨RX6, "copyFrom", "(LWaveUpgrade$Names;)V"⟩
abbrev cX6_isFull : ByteArray := prog_8_method_3_code
def yX6_isFull : MethodName := ⟨RX6, "isFull", "()Z"⟩
abbrev cX6_numberOf : ByteArray := prog_8_method_4_code
def yX6_numberOf : MethodName := ⟨RX6, "numberOf", "(J)I"⟩
abbrev cX6_add : ByteArray := prog_8_method_6_code
def yX6_add : MethodName := ⟨RX6, "add", "(J)V"⟩
def RX7 : String := "WaveUpgrade$Program"
def TX7 : u_T := fun k => match k with
  | 0 => ("WaveUpgrade$Program", "commands", "[LWaveUpgrade$Command;", true)
  | 1 => ("WaveUpgrade$Program", "member", "[I", true)
  | 2 => ("WaveUpgrade$Program", "version", "[I", true)
  | 3 => ("WaveUpgrade$Program", "number", "[I", true)
  | 4 => ("WaveUpgrade$Program", "behind", "[I", true)
  | 5 => ("WaveUpgrade$Program", "count", "I", false)
  | 6 => ("WaveUpgrade$Program", "open", "[I", true)
  | 7 => ("WaveUpgrade$Program", "left", "[I", true)
  | 8 => ("WaveUpgrade$Program", "depth", "I", false)
  | _ => ("WaveUpgrade$Program", "at", "I", false)
def tyX7 : Nat → FieldType := fun k => match k with
  | 0 => .array (.object "WaveUpgrade$Command")
  | 1 => .array .int
  | 2 => .array .int
  | 3 => .array .int
  | 4 => .array .int
  | 5 => .int
  | 6 => .array .int
  | 7 => .array .int
  | 8 => .int
  | _ => .int
abbrev wsX70 : List Cond := u_ws RX7 TX7 10
theorem nmX7 : ∀ a, a < 10 → ∀ b, b < 10 → a ≠ b → (TX7 a).2.1 ≠ (TX7 b).2.1 := by decide +kernel
theorem tyX7_ok : ∀ k, k < 10 → parseFieldDescriptor (TX7 k).2.2.1 = some (tyX7 k) := by decide +kernel
abbrev cX7_init : ByteArray := prog_9_method_1_code
def yX7_init : MethodName := ⟨RX7, "<init>", "()V"⟩
def RX8 : String := "WaveUpgrade$State"
def TX8 : u_T := fun k => match k with
  | 0 => ("WaveUpgrade$State", "layout", "LWaveUpgrade$Layout;", true)
  | 1 => ("WaveUpgrade$State", "clock", "I", false)
  | 2 => ("WaveUpgrade$State", "format", "I", false)
  | 3 => ("WaveUpgrade$State", "version", "[I", true)
  | 4 => ("WaveUpgrade$State", "coming", "[I", true)
  | 5 => ("WaveUpgrade$State", "upAt", "[I", true)
  | 6 => ("WaveUpgrade$State", "measure", "[I", true)
  | 7 => ("WaveUpgrade$State", "downSet", "I", false)
  | 8 => ("WaveUpgrade$State", "held", "I", false)
  | 9 => ("WaveUpgrade$State", "planState", "I", false)
  | 10 => ("WaveUpgrade$State", "target", "I", false)
  | 11 => ("WaveUpgrade$State", "step", "I", false)
  | 12 => ("WaveUpgrade$State", "goesUp", "Z", false)
  | 13 => ("WaveUpgrade$State", "wave", "I", false)
  | 14 => ("WaveUpgrade$State", "soakEnd", "I", false)
  | _ => ("WaveUpgrade$State", "events", "LWaveUpgrade$Events;", true)
def tyX8 : Nat → FieldType := fun k => match k with
  | 0 => .object "WaveUpgrade$Layout"
  | 1 => .int
  | 2 => .int
  | 3 => .array .int
  | 4 => .array .int
  | 5 => .array .int
  | 6 => .array .int
  | 7 => .int
  | 8 => .int
  | 9 => .int
  | 10 => .int
  | 11 => .int
  | 12 => .boolean
  | 13 => .int
  | 14 => .int
  | _ => .object "WaveUpgrade$Events"
abbrev wsX80 : List Cond := u_ws RX8 TX8 16
theorem nmX8 : ∀ a, a < 16 → ∀ b, b < 16 → a ≠ b → (TX8 a).2.1 ≠ (TX8 b).2.1 := by decide +kernel
theorem tyX8_ok : ∀ k, k < 16 → parseFieldDescriptor (TX8 k).2.2.1 = some (tyX8 k) := by decide +kernel
abbrev cX8_init : ByteArray := prog_10_method_1_code
def yX8_init : MethodName := ⟨RX8, "<init>", "(LWaveUpgrade$Layout;)V"⟩
abbrev cX8_reset : ByteArray := prog_10_method_2_code
def yX8_reset : MethodName := ⟨RX8, "reset", "()V"⟩
abbrev cX8_copyFrom : ByteArray := prog_10_method_3_code
def yX8_copyFrom : MethodName := ⟨RX8, "copyFrom", "(LWaveUpgrade$State;)V"⟩
abbrev cX8_replaceBy : ByteArray := prog_10_method_4_code
def yX8_replaceBy : MethodName := ⟨RX8, "replaceBy", "(LWaveUpgrade$State;)V"⟩
abbrev cX8_addMember : ByteArray := prog_10_method_5_code
def yX8_addMember : MethodName := ⟨RX8, "addMember", "(JIIZ)V"⟩
abbrev cX8_canJoin : ByteArray := prog_10_method_6_code
def yX8_canJoin : MethodName := ⟨RX8, "canJoin", "(II)Z"⟩
abbrev cX8_isUp : ByteArray := prog_10_method_10_code
def yX8_isUp : MethodName := ⟨RX8, "isUp", "(I)Z"⟩
abbrev cX8_numberOfMember : ByteArray := prog_10_method_12_code
def yX8_numberOfMember : MethodName := ⟨RX8, "numberOfMember", "(II)I"⟩
abbrev cX8_lowestComing : ByteArray := prog_10_method_13_code
def yX8_lowestComing : MethodName := ⟨RX8, "lowestComing", "(I)I"⟩
abbrev cX8_highestComing : ByteArray := prog_10_method_14_code
def yX8_highestComing : MethodName := ⟨RX8, "highestComing", "(I)I"⟩
abbrev cX8_whyNotBegin : ByteArray := prog_10_method_15_code
def yX8_whyNotBegin : MethodName := ⟨RX8, "whyNotBegin", "(II)I"⟩
abbrev cX8_opponents : ByteArray := prog_10_method_16_code
def yX8_opponents : MethodName := ⟨RX8, "opponents", "(II)I"⟩
abbrev cX8_beginChange : ByteArray := prog_10_method_18_code
def yX8_beginChange : MethodName := ⟨RX8, "beginChange", "(II)I"⟩
abbrev cX8_endChanges : ByteArray := prog_10_method_19_code
def yX8_endChanges : MethodName := ⟨RX8, "endChanges", "()V"⟩
abbrev cX8_setHeld : ByteArray := prog_10_method_20_code
def yX8_setHeld : MethodName := ⟨RX8, "setHeld", "(IZ)I"⟩
abbrev cX8_setMeasure : ByteArray := prog_10_method_21_code
def yX8_setMeasure : MethodName := ⟨RX8, "setMeasure", "(II)I"⟩
abbrev cX8_isReadByAll : ByteArray := prog_10_method_22_code
def yX8_isReadByAll : MethodName := ⟨RX8, "isReadByAll", "(I)Z"⟩
abbrev cX8_whyNotFormat : ByteArray := prog_10_method_23_code
def yX8_whyNotFormat : MethodName := ⟨RX8, "whyNotFormat", "(I)I"⟩
abbrev cX8_setFormat : ByteArray := prog_10_method_24_code
def yX8_setFormat : MethodName := ⟨RX8, "setFormat", "(I)I"⟩
abbrev cX8_lowestWayBack : ByteArray := prog_10_method_25_code
def yX8_lowestWayBack : MethodName := ⟨RX8, "lowestWayBack", "()I"⟩
abbrev cX8_isActive : ByteArray := prog_10_method_26_code
def yX8_isActive : MethodName := ⟨RX8, "isActive", "()Z"⟩
abbrev cX8_isUnderWay : ByteArray := prog_10_method_27_code
def yX8_isUnderWay : MethodName := ⟨RX8, "isUnderWay", "()Z"⟩
abbrev cX8_numberOfPlan : ByteArray := prog_10_method_28_code
def yX8_numberOfPlan : MethodName := ⟨RX8, "numberOfPlan", "(I)I"⟩
abbrev cX8_canStart : ByteArray := prog_10_method_29_code
def yX8_canStart : MethodName := ⟨RX8, "canStart", "()Z"⟩
abbrev cX8_startPlan : ByteArray := prog_10_method_30_code
def yX8_startPlan : MethodName := ⟨RX8, "startPlan", "(I)I"⟩
abbrev cX8_finishPlan : ByteArray := prog_10_method_31_code
def yX8_finishPlan : MethodName := ⟨RX8, "finishPlan", "()V"⟩
abbrev cX8_stopPlan : ByteArray := prog_10_method_32_code
def yX8_stopPlan : MethodName := ⟨RX8, "stopPlan", "()I"⟩
abbrev cX8_resumePlan : ByteArray := prog_10_method_33_code
def yX8_resumePlan : MethodName := ⟨RX8, "resumePlan", "()I"⟩
abbrev cX8_reachedOf : ByteArray := prog_10_method_34_code
def yX8_reachedOf : MethodName := ⟨RX8, "reachedOf", "(I)I"⟩
abbrev cX8_measuredSet : ByteArray := prog_10_method_35_code
def yX8_measuredSet : MethodName := ⟨RX8, "measuredSet", "()I"⟩
abbrev cX8_sumOfMeasures : ByteArray := prog_10_method_36_code
def yX8_sumOfMeasures : MethodName := ⟨RX8, "sumOfMeasures", "(I)I"⟩
abbrev cX8_laggards : ByteArray := prog_10_method_37_code
def yX8_laggards : MethodName := ⟨RX8, "laggards", "()I"⟩
abbrev cX8_canPass : ByteArray := prog_10_method_38_code
def yX8_canPass : MethodName := ⟨RX8, "canPass", "(I)Z"⟩
abbrev cX8_passMinutes : ByteArray := prog_10_method_39_code
def yX8_passMinutes : MethodName := ⟨RX8, "passMinutes", "(I)I"⟩
abbrev cX8_passMinute : ByteArray := prog_10_method_40_code
def yX8_passMinute : MethodName := ⟨RX8, "passMinute", "()I"⟩
abbrev cX8_isOverLimit : ByteArray := prog_10_method_41_code
def yX8_isOverLimit : MethodName := ⟨RX8, "isOverLimit", "()Z"⟩
abbrev cX8_leaveWave : ByteArray := prog_10_method_42_code
def yX8_leaveWave : MethodName := ⟨RX8, "leaveWave", "()V"⟩
abbrev cX8_beginChanges : ByteArray := prog_10_method_43_code
def yX8_beginChanges : MethodName := ⟨RX8, "beginChanges", "()I"⟩
abbrev cX8_soakIfComplete : ByteArray := prog_10_method_44_code
def yX8_soakIfComplete : MethodName := ⟨RX8, "soakIfComplete", "()V"⟩
abbrev cX8_minutesToDone : ByteArray := prog_10_method_47_code
def yX8_minutesToDone : MethodName := ⟨RX8, "minutesToDone", "(I)I"⟩
abbrev cX8_isStuck : ByteArray := prog_10_method_49_code
def yX8_isStuck : MethodName := ⟨RX8, "isStuck", "(I)Z"⟩
def RX9 : String := "WaveUpgrade$Statement"
def TX9 : u_T := fun k => match k with
  | _ => ("", "", "", false)
def tyX9 : Nat → FieldType := fun k => match k with
  | _ => .int
abbrev wsX90 : List Cond := u_ws RX9 TX9 0
theorem nmX9 : ∀ a, a < 0 → ∀ b, b < 0 → a ≠ b → (TX9 a).2.1 ≠ (TX9 b).2.1 := by decide +kernel
theorem tyX9_ok : ∀ k, k < 0 → parseFieldDescriptor (TX9 k).2.2.1 = some (tyX9 k) := by decide +kernel
abbrev cX9_at : ByteArray := prog_11_method_4_code
def yX9_at : MethodName := ⟨RX9, "at", "(LWaveUpgrade$Text;)LWaveUpgrade$Statement;"⟩
def RX10 : String := "WaveUpgrade$Text"
def TX10 : u_T := fun k => match k with
  | 0 => ("WaveUpgrade$Text", "bytes", "[B", true)
  | 1 => ("WaveUpgrade$Text", "length", "I", false)
  | 2 => ("WaveUpgrade$Text", "errorCode", "I", false)
  | 3 => ("WaveUpgrade$Text", "errorPosition", "I", false)
  | 4 => ("WaveUpgrade$Text", "kind", "I", false)
  | 5 => ("WaveUpgrade$Text", "position", "I", false)
  | 6 => ("WaveUpgrade$Text", "word", "J", false)
  | 7 => ("WaveUpgrade$Text", "number", "I", false)
  | _ => ("WaveUpgrade$Text", "behind", "I", false)
def tyX10 : Nat → FieldType := fun k => match k with
  | 0 => .array .byte
  | 1 => .int
  | 2 => .int
  | 3 => .int
  | 4 => .int
  | 5 => .int
  | 6 => .long
  | 7 => .int
  | _ => .int
abbrev wsX100 : List Cond := u_ws RX10 TX10 9
theorem nmX10 : ∀ a, a < 9 → ∀ b, b < 9 → a ≠ b → (TX10 a).2.1 ≠ (TX10 b).2.1 := by decide +kernel
theorem tyX10_ok : ∀ k, k < 9 → parseFieldDescriptor (TX10 k).2.2.1 = some (tyX10 k) := by decide +kernel
abbrev cX10_init : ByteArray := prog_12_method_1_code
def yX10_init : MethodName := ⟨RX10, "<init>", "()V"⟩
abbrev cX10_append : ByteArray := prog_12_method_2_code
def yX10_append : MethodName := ⟨RX10, "append", "(I)V"⟩
abbrev cX10_begin : ByteArray := prog_12_method_3_code
def yX10_begin : MethodName := ⟨RX10, "begin", "()V"⟩
abbrev cX10_fail : ByteArray := prog_12_method_4_code
def yX10_fail : MethodName := ⟨RX10, "fail", "(I)Z"⟩
abbrev cX10_advance : ByteArray := prog_12_method_5_code
def yX10_advance : MethodName := ⟨RX10, "advance", "()V"⟩
abbrev cX10_scanWord : ByteArray := prog_12_method_6_code
def yX10_scanWord : MethodName := ⟨RX10, "scanWord", "()V"⟩
abbrev cX10_scanNumber : ByteArray := prog_12_method_7_code
def yX10_scanNumber : MethodName := ⟨RX10, "scanNumber", "()V"⟩
abbrev cX10_isWord : ByteArray := prog_12_method_8_code
def yX10_isWord : MethodName := ⟨RX10, "isWord", "(Ljava/lang/String;)Z"⟩
abbrev cX10_takeSign : ByteArray := prog_12_method_9_code
def yX10_takeSign : MethodName := ⟨RX10, "takeSign", "(I)Z"⟩
abbrev cX10_takeNumber : ByteArray := prog_12_method_10_code
def yX10_takeNumber : MethodName := ⟨RX10, "takeNumber", "(II)I"⟩
abbrev cX10_takeNewName : ByteArray := prog_12_method_11_code
def yX10_takeNewName : MethodName := ⟨RX10, "takeNewName", "(LWaveUpgrade$Names;)J"⟩
abbrev cX10_findName : ByteArray := prog_12_method_12_code
def yX10_findName : MethodName := ⟨RX10, "findName", "(LWaveUpgrade$Names;)I"⟩
def RX11 : String := "WaveUpgrade"
def TX11 : u_T := fun k => match k with
  | 0 => ("WaveUpgrade", "text", "LWaveUpgrade$Text;", true)
  | 1 => ("WaveUpgrade", "state", "LWaveUpgrade$State;", true)
  | 2 => ("WaveUpgrade", "trial", "LWaveUpgrade$State;", true)
  | 3 => ("WaveUpgrade", "draft", "LWaveUpgrade$State;", true)
  | 4 => ("WaveUpgrade", "saved", "LWaveUpgrade$State;", true)
  | 5 => ("WaveUpgrade", "isSaved", "Z", false)
  | 6 => ("WaveUpgrade", "history", "LWaveUpgrade$History;", true)
  | 7 => ("WaveUpgrade", "reader", "LWaveUpgrade$ClusterReader;", true)
  | 8 => ("WaveUpgrade", "program", "LWaveUpgrade$Program;", true)
  | 9 => ("WaveUpgrade", "reportRow", "[B", true)
  | _ => ("WaveUpgrade", "reportLength", "I", false)
def tyX11 : Nat → FieldType := fun k => match k with
  | 0 => .object "WaveUpgrade$Text"
  | 1 => .object "WaveUpgrade$State"
  | 2 => .object "WaveUpgrade$State"
  | 3 => .object "WaveUpgrade$State"
  | 4 => .object "WaveUpgrade$State"
  | 5 => .boolean
  | 6 => .object "WaveUpgrade$History"
  | 7 => .object "WaveUpgrade$ClusterReader"
  | 8 => .object "WaveUpgrade$Program"
  | 9 => .array .byte
  | _ => .int
abbrev wsX110 : List Cond := u_ws RX11 TX11 11
theorem nmX11 : ∀ a, a < 11 → ∀ b, b < 11 → a ≠ b → (TX11 a).2.1 ≠ (TX11 b).2.1 := by decide +kernel
theorem tyX11_ok : ∀ k, k < 11 → parseFieldDescriptor (TX11 k).2.2.1 = some (tyX11 k) := by decide +kernel
abbrev cX11_init : ByteArray := prog_1_method_1_code
def yX11_init : MethodName := ⟨RX11, "<init>", "()V"⟩
abbrev cX11_feed : ByteArray := prog_1_method_2_code
def yX11_feed : MethodName := ⟨RX11, "feed", "(IIIII)I"⟩
abbrev cX11_truncate : ByteArray := prog_1_method_3_code
def yX11_truncate : MethodName := ⟨RX11, "truncate", "(I)I"⟩
abbrev cX11_readText : ByteArray := prog_1_method_4_code
def yX11_readText : MethodName := ⟨RX11, "readText", "()I"⟩
abbrev cX11_setting : ByteArray := prog_1_method_8_code
def yX11_setting : MethodName := ⟨RX11, "setting", "(I)I"⟩
abbrev cX11_mayTalk : ByteArray := prog_1_method_9_code
def yX11_mayTalk : MethodName := ⟨RX11, "mayTalk", "(II)Z"⟩
abbrev cX11_readers : ByteArray := prog_1_method_10_code
def yX11_readers : MethodName := ⟨RX11, "readers", "(I)I"⟩
abbrev cX11_member : ByteArray := prog_1_method_14_code
def yX11_member : MethodName := ⟨RX11, "member", "(II)I"⟩
abbrev cX11_partners : ByteArray := prog_1_method_15_code
def yX11_partners : MethodName := ⟨RX11, "partners", "(I)I"⟩
abbrev cX11_down : ByteArray := prog_1_method_17_code
def yX11_down : MethodName := ⟨RX11, "down", "(I)I"⟩
abbrev cX11_skewNow : ByteArray := prog_1_method_18_code
def yX11_skewNow : MethodName := ⟨RX11, "skewNow", "()I"⟩
abbrev cX11_reason : ByteArray := prog_1_method_19_code
def yX11_reason : MethodName := ⟨RX11, "reason", "(II)I"⟩
abbrev cX11_open : ByteArray := prog_1_method_20_code
def yX11_open : MethodName := ⟨RX11, "open", "(I)I"⟩
abbrev cX11_plan : ByteArray := prog_1_method_23_code
def yX11_plan : MethodName := ⟨RX11, "plan", "(I)I"⟩
abbrev cX11_whyNotCommit : ByteArray := prog_1_method_29_code
def yX11_whyNotCommit : MethodName := ⟨RX11, "whyNotCommit", "(I)I"⟩
abbrev cX11_wayBack : ByteArray := prog_1_method_31_code
def yX11_wayBack : MethodName := ⟨RX11, "wayBack", "()I"⟩
abbrev cX11_minutesToEnd : ByteArray := prog_1_method_32_code
def yX11_minutesToEnd : MethodName := ⟨RX11, "minutesToEnd", "(I)I"⟩
abbrev cX11_events : ByteArray := prog_1_method_37_code
def yX11_events : MethodName := ⟨RX11, "events", "()I"⟩
abbrev cX11_event : ByteArray := prog_1_method_38_code
def yX11_event : MethodName := ⟨RX11, "event", "(II)I"⟩
abbrev cX11_pass : ByteArray := prog_1_method_39_code
def yX11_pass : MethodName := ⟨RX11, "pass", "(I)I"⟩
abbrev cX11_start : ByteArray := prog_1_method_40_code
def yX11_start : MethodName := ⟨RX11, "start", "(I)I"⟩
abbrev cX11_stop : ByteArray := prog_1_method_41_code
def yX11_stop : MethodName := ⟨RX11, "stop", "()I"⟩
abbrev cX11_go : ByteArray := prog_1_method_42_code
def yX11_go : MethodName := ⟨RX11, "go", "()I"⟩
abbrev cX11_hold : ByteArray := prog_1_method_43_code
def yX11_hold : MethodName := ⟨RX11, "hold", "(IZ)I"⟩
abbrev cX11_report : ByteArray := prog_1_method_44_code
def yX11_report : MethodName := ⟨RX11, "report", "(II)I"⟩
abbrev cX11_change : ByteArray := prog_1_method_45_code
def yX11_change : MethodName := ⟨RX11, "change", "(II)I"⟩
abbrev cX11_commit : ByteArray := prog_1_method_46_code
def yX11_commit : MethodName := ⟨RX11, "commit", "(I)I"⟩
abbrev cX11_undo : ByteArray := prog_1_method_49_code
def yX11_undo : MethodName := ⟨RX11, "undo", "()I"⟩
abbrev cX11_needVersion : ByteArray := prog_1_method_52_code
def yX11_needVersion : MethodName := ⟨RX11, "needVersion", "(I)V"⟩
abbrev cX11_needMember : ByteArray := prog_1_method_53_code
def yX11_needMember : MethodName := ⟨RX11, "needMember", "(I)V"⟩
abbrev cX11_needFormat : ByteArray := prog_1_method_54_code
def yX11_needFormat : MethodName := ⟨RX11, "needFormat", "(I)V"⟩
abbrev cX11_needMeasure : ByteArray := prog_1_method_55_code
def yX11_needMeasure : MethodName := ⟨RX11, "needMeasure", "(I)V"⟩
abbrev cX11_needAhead : ByteArray := prog_1_method_56_code
def yX11_needAhead : MethodName := ⟨RX11, "needAhead", "(I)V"⟩
abbrev cX11_isIn : ByteArray := prog_1_method_60_code
def yX11_isIn : MethodName := ⟨RX11, "isIn", "(II)Z"⟩
abbrev cX11_copyRow : ByteArray := prog_1_method_61_code
def yX11_copyRow : MethodName := ⟨RX11, "copyRow", "([I[I)V"⟩
def RX12 : String := "WaveUpgradeLaw$Member"
def TX12 : u_T := fun k => match k with
  | 0 => ("WaveUpgradeLaw$Member", "place", "I", false)
  | 1 => ("WaveUpgradeLaw$Member", "version", "I", false)
  | 2 => ("WaveUpgradeLaw$Member", "next", "I", false)
  | 3 => ("WaveUpgradeLaw$Member", "until", "I", false)
  | 4 => ("WaveUpgradeLaw$Member", "measure", "I", false)
  | _ => ("WaveUpgradeLaw$Member", "isHeld", "Z", false)
def tyX12 : Nat → FieldType := fun k => match k with
  | 0 => .int
  | 1 => .int
  | 2 => .int
  | 3 => .int
  | 4 => .int
  | _ => .boolean
abbrev wsX120 : List Cond := u_ws RX12 TX12 6
theorem nmX12 : ∀ a, a < 6 → ∀ b, b < 6 → a ≠ b → (TX12 a).2.1 ≠ (TX12 b).2.1 := by decide +kernel
theorem tyX12_ok : ∀ k, k < 6 → parseFieldDescriptor (TX12 k).2.2.1 = some (tyX12 k) := by decide +kernel
abbrev cX12_init : ByteArray := prog_14_method_1_code
def yX12_init : MethodName := ⟨RX12, "<init>", "()V"⟩
abbrev cX12_isUp : ByteArray := prog_14_method_3_code
def yX12_isUp : MethodName := ⟨RX12, "isUp", "()Z"⟩
abbrev cX12_coming : ByteArray := prog_14_method_4_code
def yX12_coming : MethodName := ⟨RX12, "coming", "()I"⟩
def RX13 : String := "WaveUpgradeLaw$World"
def TX13 : u_T := fun k => match k with
  | 0 => ("WaveUpgradeLaw$World", "format", "I", false)
  | 1 => ("WaveUpgradeLaw$World", "skew", "I", false)
  | 2 => ("WaveUpgradeLaw$World", "down", "I", false)
  | 3 => ("WaveUpgradeLaw$World", "takes", "I", false)
  | 4 => ("WaveUpgradeLaw$World", "soak", "I", false)
  | 5 => ("WaveUpgradeLaw$World", "limit", "I", false)
  | 6 => ("WaveUpgradeLaw$World", "clock", "I", false)
  | 7 => ("WaveUpgradeLaw$World", "links", "I", false)
  | 8 => ("WaveUpgradeLaw$World", "state", "I", false)
  | 9 => ("WaveUpgradeLaw$World", "target", "I", false)
  | 10 => ("WaveUpgradeLaw$World", "step", "I", false)
  | 11 => ("WaveUpgradeLaw$World", "wave", "I", false)
  | 12 => ("WaveUpgradeLaw$World", "end", "I", false)
  | 13 => ("WaveUpgradeLaw$World", "was", "I", false)
  | 14 => ("WaveUpgradeLaw$World", "isUp", "Z", false)
  | 15 => ("WaveUpgradeLaw$World", "versions", "I", false)
  | 16 => ("WaveUpgradeLaw$World", "places", "I", false)
  | 17 => ("WaveUpgradeLaw$World", "waves", "I", false)
  | 18 => ("WaveUpgradeLaw$World", "low", "[I", false)
  | 19 => ("WaveUpgradeLaw$World", "high", "[I", false)
  | 20 => ("WaveUpgradeLaw$World", "waveOf", "[I", false)
  | 21 => ("WaveUpgradeLaw$World", "talks", "[[Z", false)
  | 22 => ("WaveUpgradeLaw$World", "linked", "[[Z", false)
  | 23 => ("WaveUpgradeLaw$World", "members", "Ljava/util/List;", false)
  | 24 => ("WaveUpgradeLaw$World", "events", "Ljava/util/List;", false)
  | 25 => ("WaveUpgradeLaw$World", "text", "Ljava/lang/String;", false)
  | 26 => ("WaveUpgradeLaw$World", "s", "[I", false)
  | _ => ("WaveUpgradeLaw$World", "at", "I", false)
def tyX13 : Nat → FieldType := fun k => match k with
  | 0 => .int
  | 1 => .int
  | 2 => .int
  | 3 => .int
  | 4 => .int
  | 5 => .int
  | 6 => .int
  | 7 => .int
  | 8 => .int
  | 9 => .int
  | 10 => .int
  | 11 => .int
  | 12 => .int
  | 13 => .int
  | 14 => .boolean
  | 15 => .int
  | 16 => .int
  | 17 => .int
  | 18 => .array .int
  | 19 => .array .int
  | 20 => .array .int
  | 21 => .array (.array .boolean)
  | 22 => .array (.array .boolean)
  | 23 => .object "java/util/List"
  | 24 => .object "java/util/List"
  | 25 => .object "java/lang/String"
  | 26 => .array .int
  | _ => .int
abbrev wsX130 : List Cond := u_ws RX13 TX13 28
theorem nmX13 : ∀ a, a < 28 → ∀ b, b < 28 → a ≠ b → (TX13 a).2.1 ≠ (TX13 b).2.1 := by decide +kernel
theorem tyX13_ok : ∀ k, k < 28 → parseFieldDescriptor (TX13 k).2.2.1 = some (tyX13 k) := by decide +kernel
abbrev cX13_init : ByteArray := prog_15_method_1_code
def yX13_init : MethodName := ⟨RX13, "<init>", "()V"⟩
abbrev cX13_next : ByteArray := prog_15_method_2_code
def yX13_next : MethodName := ⟨RX13, "next", "(I)I"⟩
abbrev cX13_name : ByteArray := prog_15_method_3_code
def yX13_name : MethodName := ⟨RX13, "name", "(Ljava/lang/String;I)Ljava/lang/String;"⟩
abbrev cX13_grown : ByteArray := prog_15_method_4_code
def yX13_grown : MethodName := ⟨RX13, "grown", "([I)LWaveUpgradeLaw$World;"⟩
abbrev cX13_talk : ByteArray := prog_15_method_5_code
def yX13_talk : MethodName := ⟨RX13, "talk", "(Ljava/lang/StringBuilder;II)V"⟩
abbrev cX13_member : ByteArray := prog_15_method_6_code
def yX13_member : MethodName := ⟨RX13, "member", "(Ljava/lang/StringBuilder;)V"⟩
abbrev cX13_link : ByteArray := prog_15_method_7_code
def yX13_link : MethodName := ⟨RX13, "link", "(Ljava/lang/StringBuilder;)V"⟩
abbrev cX13_inWave : ByteArray := prog_15_method_8_code
def yX13_inWave : MethodName := ⟨RX13, "inWave", "(Ljava/lang/StringBuilder;I)V"⟩
abbrev cX13_talk_ : ByteArray := prog_15_method_10_code
def yX13_talk_ : MethodName := ⟨RX13, "talk", "(II)Z"⟩
abbrev cX13_reads : ByteArray := prog_15_method_11_code
def yX13_reads : MethodName := ⟨RX13, "reads", "(II)Z"⟩
abbrev cX13_partners : ByteArray := prog_15_method_12_code
def yX13_partners : MethodName := ⟨RX13, "partners", "(II)Z"⟩
abbrev cX13_downIn : ByteArray := prog_15_method_13_code
def yX13_downIn : MethodName := ⟨RX13, "downIn", "(I)I"⟩
abbrev cX13_why : ByteArray := prog_15_method_14_code
def yX13_why : MethodName := ⟨RX13, "why", "(II)I"⟩
abbrev cX13_note : ByteArray := prog_15_method_15_code
def yX13_note : MethodName := ⟨RX13, "note", "(III)V"⟩
abbrev cX13_hasPlan : ByteArray := prog_15_method_16_code
def yX13_hasPlan : MethodName := ⟨RX13, "hasPlan", "()Z"⟩
abbrev cX13_isGoing : ByteArray := prog_15_method_17_code
def yX13_isGoing : MethodName := ⟨RX13, "isGoing", "()Z"⟩
abbrev cX13_waveAt : ByteArray := prog_15_method_18_code
def yX13_waveAt : MethodName := ⟨RX13, "waveAt", "(I)I"⟩
abbrev cX13_isReady : ByteArray := prog_15_method_19_code
def yX13_isReady : MethodName := ⟨RX13, "isReady", "(I)Z"⟩
abbrev cX13_measures : ByteArray := prog_15_method_20_code
def yX13_measures : MethodName := ⟨RX13, "measures", "()[I"⟩
abbrev cX13_begin : ByteArray := prog_15_method_21_code
def yX13_begin : MethodName := ⟨RX13, "begin", "(II)V"⟩
abbrev cX13_stop : ByteArray := prog_15_method_22_code
def yX13_stop : MethodName := ⟨RX13, "stop", "()V"⟩
abbrev cX13_minute : ByteArray := prog_15_method_23_code
def yX13_minute : MethodName := ⟨RX13, "minute", "()V"⟩
abbrev cX13_start : ByteArray := prog_15_method_24_code
def yX13_start : MethodName := ⟨RX13, "start", "(I)I"⟩
abbrev cX13_go : ByteArray := prog_15_method_25_code
def yX13_go : MethodName := ⟨RX13, "go", "()I"⟩
abbrev cX13_hold : ByteArray := prog_15_method_26_code
def yX13_hold : MethodName := ⟨RX13, "hold", "(IZ)I"⟩
abbrev cX13_whyCommit : ByteArray := prog_15_method_27_code
def yX13_whyCommit : MethodName := ⟨RX13, "whyCommit", "(I)I"⟩
abbrev cX13_commit : ByteArray := prog_15_method_28_code
def yX13_commit : MethodName := ⟨RX13, "commit", "(I)I"⟩
def RX14 : String := "WaveUpgradeModel"
def TX14 : u_T := fun k => match k with
  | _ => ("", "", "", false)
def tyX14 : Nat → FieldType := fun k => match k with
  | _ => .int
abbrev wsX140 : List Cond := u_ws RX14 TX14 0
theorem nmX14 : ∀ a, a < 0 → ∀ b, b < 0 → a ≠ b → (TX14 a).2.1 ≠ (TX14 b).2.1 := by decide +kernel
theorem tyX14_ok : ∀ k, k < 0 → parseFieldDescriptor (TX14 k).2.2.1 = some (tyX14 k) := by decide +kernel
def RJx145de : String := "java/io/Serializable"
def TJx145de : u_T := fun k => match k with
  | _ => ("", "", "", false)
def tyJx145de : Nat → FieldType := fun k => match k with
  | _ => .int
abbrev wsJx145de0 : List Cond := u_ws RJx145de TJx145de 0
theorem nmJx145de : ∀ a, a < 0 → ∀ b, b < 0 → a ≠ b → (TJx145de a).2.1 ≠ (TJx145de b).2.1 := by decide +kernel
theorem tyJx145de_ok : ∀ k, k < 0 → parseFieldDescriptor (TJx145de k).2.2.1 = some (tyJx145de k) := by decide +kernel
def RJ5 : String := "java/lang/AbstractStringBuilder"
def TJ5 : u_T := fun k => match k with
  | _ => ("", "", "", false)
def tyJ5 : Nat → FieldType := fun k => match k with
  | _ => .int
abbrev wsJ50 : List Cond := u_ws RJ5 TJ5 0
theorem nmJ5 : ∀ a, a < 0 → ∀ b, b < 0 → a ≠ b → (TJ5 a).2.1 ≠ (TJ5 b).2.1 := by decide +kernel
theorem tyJ5_ok : ∀ k, k < 0 → parseFieldDescriptor (TJ5 k).2.2.1 = some (tyJ5 k) := by decide +kernel
abbrev cJ5_init_d00df : ByteArray := prog_18_method_2_code
def yJ5_init_d00df : MethodName := ⟨RJ5, "<init>", "(I)V"⟩
abbrev cJ5_length_8abf5 : ByteArray := prog_18_method_6_code
def yJ5_length_8abf5 : MethodName := ⟨RJ5, "length", "()I"⟩
abbrev cJ5_ensureCapacityInternal_d00df : ByteArray := prog_18_method_9_code
def yJ5_ensureCapacityInternal_d00df : MethodName := ⟨RJ5, "ensureCapacityInternal", "(I)V"⟩
abbrev cJ5_newCapacity_0f7a4 : ByteArray := prog_18_method_10_code
def yJ5_newCapacity_0f7a4 : MethodName := ⟨RJ5, "newCapacity", "(I)I"⟩
abbrev cJ5_inflate_da8c8 : ByteArray := prog_18_method_11_code
def yJ5_inflate_da8c8 : MethodName := ⟨RJ5, "inflate", "()V"⟩
abbrev cJ5_append_cf1ce : ByteArray := prog_18_method_22_code
def yJ5_append_cf1ce : MethodName := ⟨RJ5, "append", "(Ljava/lang/String;)Ljava/lang/AbstractStringBuilder;"⟩
abbrev cJ5_appendNull_278bc : ByteArray := prog_18_method_26_code
def yJ5_appendNull_278bc : MethodName := ⟨RJ5, "appendNull", "()Ljava/lang/AbstractStringBuilder;"⟩
abbrev cJ5_append_3fe6f : ByteArray := prog_18_method_31_code
def yJ5_append_3fe6f : MethodName := ⟨RJ5, "append", "(C)Ljava/lang/AbstractStringBuilder;"⟩
abbrev cJ5_append_c97b9 : ByteArray := prog_18_method_32_code
def yJ5_append_c97b9 : MethodName := ⟨RJ5, "append", "(I)Ljava/lang/AbstractStringBuilder;"⟩
abbrev cJ5_getValue_6d5f1 : ByteArray := prog_18_method_64_code
def yJ5_getValue_6d5f1 : MethodName := ⟨RJ5, "getValue", "()[B"⟩
abbrev cJ5_isLatin1_aae02 : ByteArray := prog_18_method_68_code
def yJ5_isLatin1_aae02 : MethodName := ⟨RJ5, "isLatin1", "()Z"⟩
abbrev cJ5_inflateIfNeededFor_a7421 : ByteArray := prog_18_method_71_code
def yJ5_inflateIfNeededFor_a7421 : MethodName := ⟨RJ5, "inflateIfNeededFor", "(Ljava/lang/String;)V"⟩
abbrev cJ5_putStringAt_47b60 : ByteArray := prog_18_method_73_code
def yJ5_putStringAt_47b60 : MethodName := ⟨RJ5, "putStringAt", "(ILjava/lang/String;)V"⟩
def RJx2cfe8 : String := "java/lang/Appendable"
def TJx2cfe8 : u_T := fun k => match k with
  | _ => ("", "", "", false)
def tyJx2cfe8 : Nat → FieldType := fun k => match k with
  | _ => .int
abbrev wsJx2cfe80 : List Cond := u_ws RJx2cfe8 TJx2cfe8 0
theorem nmJx2cfe8 : ∀ a, a < 0 → ∀ b, b < 0 → a ≠ b → (TJx2cfe8 a).2.1 ≠ (TJx2cfe8 b).2.1 := by decide +kernel
theorem tyJx2cfe8_ok : ∀ k, k < 0 → parseFieldDescriptor (TJx2cfe8 k).2.2.1 = some (tyJx2cfe8 k) := by decide +kernel
def RJx9f9b0 : String := "java/lang/CharSequence"
def TJx9f9b0 : u_T := fun k => match k with
  | _ => ("", "", "", false)
def tyJx9f9b0 : Nat → FieldType := fun k => match k with
  | _ => .int
abbrev wsJx9f9b00 : List Cond := u_ws RJx9f9b0 TJx9f9b0 0
theorem nmJx9f9b0 : ∀ a, a < 0 → ∀ b, b < 0 → a ≠ b → (TJx9f9b0 a).2.1 ≠ (TJx9f9b0 b).2.1 := by decide +kernel
theorem tyJx9f9b0_ok : ∀ k, k < 0 → parseFieldDescriptor (TJx9f9b0 k).2.2.1 = some (tyJx9f9b0 k) := by decide +kernel
def RJx8e188 : String := "java/lang/Cloneable"
def TJx8e188 : u_T := fun k => match k with
  | _ => ("", "", "", false)
def tyJx8e188 : Nat → FieldType := fun k => match k with
  | _ => .int
abbrev wsJx8e1880 : List Cond := u_ws RJx8e188 TJx8e188 0
theorem nmJx8e188 : ∀ a, a < 0 → ∀ b, b < 0 → a ≠ b → (TJx8e188 a).2.1 ≠ (TJx8e188 b).2.1 := by decide +kernel
theorem tyJx8e188_ok : ∀ k, k < 0 → parseFieldDescriptor (TJx8e188 k).2.2.1 = some (tyJx8e188 k) := by decide +kernel
def RJxb160c : String := "java/lang/Comparable"
def TJxb160c : u_T := fun k => match k with
  | _ => ("", "", "", false)
def tyJxb160c : Nat → FieldType := fun k => match k with
  | _ => .int
abbrev wsJxb160c0 : List Cond := u_ws RJxb160c TJxb160c 0
theorem nmJxb160c : ∀ a, a < 0 → ∀ b, b < 0 → a ≠ b → (TJxb160c a).2.1 ≠ (TJxb160c b).2.1 := by decide +kernel
theorem tyJxb160c_ok : ∀ k, k < 0 → parseFieldDescriptor (TJxb160c k).2.2.1 = some (tyJxb160c k) := by decide +kernel
def RJx29ce0 : String := "java/lang/Enum"
def TJx29ce0 : u_T := fun k => match k with
  | _ => ("", "", "", false)
def tyJx29ce0 : Nat → FieldType := fun k => match k with
  | _ => .int
abbrev wsJx29ce00 : List Cond := u_ws RJx29ce0 TJx29ce0 0
theorem nmJx29ce0 : ∀ a, a < 0 → ∀ b, b < 0 → a ≠ b → (TJx29ce0 a).2.1 ≠ (TJx29ce0 b).2.1 := by decide +kernel
theorem tyJx29ce0_ok : ∀ k, k < 0 → parseFieldDescriptor (TJx29ce0 k).2.2.1 = some (tyJx29ce0 k) := by decide +kernel
abbrev cJx29ce0_ordinal_8abf5 : ByteArray := prog_23_method_2_code
def yJx29ce0_ordinal_8abf5 : MethodName := ⟨RJx29ce0, "ordinal", "()I"⟩
def RJ6 : String := "java/lang/Integer"
def TJ6 : u_T := fun k => match k with
  | _ => ("", "", "", false)
def tyJ6 : Nat → FieldType := fun k => match k with
  | _ => .int
abbrev wsJ60 : List Cond := u_ws RJ6 TJ6 0
theorem nmJ6 : ∀ a, a < 0 → ∀ b, b < 0 → a ≠ b → (TJ6 a).2.1 ≠ (TJ6 b).2.1 := by decide +kernel
theorem tyJ6_ok : ∀ k, k < 0 → parseFieldDescriptor (TJ6 k).2.2.1 = some (tyJ6 k) := by decide +kernel
abbrev cJ6_getChars_ba4f3 : ByteArray := prog_28_method_12_code
def yJ6_getChars_ba4f3 : MethodName := ⟨RJ6, "getChars", "(II[B)I"⟩
abbrev cJ6_stringSize_0f7a4 : ByteArray := prog_28_method_13_code
def yJ6_stringSize_0f7a4 : MethodName := ⟨RJ6, "stringSize", "(I)I"⟩
abbrev cJ6_bitCount_0f7a4 : ByteArray := prog_28_method_49_code
def yJ6_bitCount_0f7a4 : MethodName := ⟨RJ6, "bitCount", "(I)I"⟩
def RJxab1ab : String := "java/lang/Iterable"
def TJxab1ab : u_T := fun k => match k with
  | _ => ("", "", "", false)
def tyJxab1ab : Nat → FieldType := fun k => match k with
  | _ => .int
abbrev wsJxab1ab0 : List Cond := u_ws RJxab1ab TJxab1ab 0
theorem nmJxab1ab : ∀ a, a < 0 → ∀ b, b < 0 → a ≠ b → (TJxab1ab a).2.1 ≠ (TJxab1ab b).2.1 := by decide +kernel
theorem tyJxab1ab_ok : ∀ k, k < 0 → parseFieldDescriptor (TJxab1ab k).2.2.1 = some (tyJxab1ab k) := by decide +kernel
def RJ9 : String := "java/lang/Math"
def TJ9 : u_T := fun k => match k with
  | _ => ("", "", "", false)
def tyJ9 : Nat → FieldType := fun k => match k with
  | _ => .int
abbrev wsJ90 : List Cond := u_ws RJ9 TJ9 0
theorem nmJ9 : ∀ a, a < 0 → ∀ b, b < 0 → a ≠ b → (TJ9 a).2.1 ≠ (TJ9 b).2.1 := by decide +kernel
theorem tyJ9_ok : ∀ k, k < 0 → parseFieldDescriptor (TJ9 k).2.2.1 = some (tyJ9 k) := by decide +kernel
abbrev cJ9_floorMod_7cf53 : ByteArray := prog_30_method_50_code
def yJ9_floorMod_7cf53 : MethodName := ⟨RJ9, "floorMod", "(II)I"⟩
abbrev cJ9_abs_0f7a4 : ByteArray := prog_30_method_59_code
def yJ9_abs_0f7a4 : MethodName := ⟨RJ9, "abs", "(I)I"⟩
abbrev cJ9_max_7cf53 : ByteArray := prog_30_method_65_code
def yJ9_max_7cf53 : MethodName := ⟨RJ9, "max", "(II)I"⟩
abbrev cJ9_min_7cf53 : ByteArray := prog_30_method_69_code
def yJ9_min_7cf53 : MethodName := ⟨RJ9, "min", "(II)I"⟩
def RJxd2413 : String := "java/lang/Number"
def TJxd2413 : u_T := fun k => match k with
  | _ => ("", "", "", false)
def tyJxd2413 : Nat → FieldType := fun k => match k with
  | _ => .int
abbrev wsJxd24130 : List Cond := u_ws RJxd2413 TJxd2413 0
theorem nmJxd2413 : ∀ a, a < 0 → ∀ b, b < 0 → a ≠ b → (TJxd2413 a).2.1 ≠ (TJxd2413 b).2.1 := by decide +kernel
theorem tyJxd2413_ok : ∀ k, k < 0 → parseFieldDescriptor (TJxd2413 k).2.2.1 = some (tyJxd2413 k) := by decide +kernel
def RJ0 : String := "java/lang/String"
def TJ0 : u_T := fun k => match k with
  | 0 => ("java/lang/String", "value", "[B", true)
  | 1 => ("java/lang/String", "coder", "B", true)
  | 2 => ("java/lang/String", "hash", "I", false)
  | _ => ("java/lang/String", "hashIsZero", "Z", false)
def tyJ0 : Nat → FieldType := fun k => match k with
  | 0 => .array .byte
  | 1 => .byte
  | 2 => .int
  | _ => .boolean
abbrev wsJ00 : List Cond := u_ws RJ0 TJ0 4
theorem nmJ0 : ∀ a, a < 4 → ∀ b, b < 4 → a ≠ b → (TJ0 a).2.1 ≠ (TJ0 b).2.1 := by decide +kernel
theorem tyJ0_ok : ∀ k, k < 4 → parseFieldDescriptor (TJ0 k).2.2.1 = some (tyJ0 k) := by decide +kernel
abbrev cJ0_init_81219 : ByteArray := prog_33_method_53_code
def yJ0_init_81219 : MethodName := ⟨RJ0, "<init>", "(Ljava/lang/StringBuilder;)V"⟩
abbrev cJ0_length_8abf5 : ByteArray := prog_33_method_54_code
def yJ0_length_8abf5 : MethodName := ⟨RJ0, "length", "()I"⟩
abbrev cJ0_isEmpty_aae02 : ByteArray := prog_33_method_55_code
def yJ0_isEmpty_aae02 : MethodName := ⟨RJ0, "isEmpty", "()Z"⟩
abbrev cJ0_charAt_5068e : ByteArray := prog_33_method_56_code
def yJ0_charAt_5068e : MethodName := ⟨RJ0, "charAt", "(I)C"⟩
abbrev cJ0_getBytes_840e7 : ByteArray := prog_33_method_147_code
def yJ0_getBytes_840e7 : MethodName := ⟨RJ0, "getBytes", "([BIB)V"⟩
abbrev cJ0_init_db425 : ByteArray := prog_33_method_150_code
def yJ0_init_db425 : MethodName := ⟨RJ0, "<init>", "(Ljava/lang/AbstractStringBuilder;Ljava/lang/Void;)V"⟩
abbrev cJ0_coder_7d493 : ByteArray := prog_33_method_152_code
def yJ0_coder_7d493 : MethodName := ⟨RJ0, "coder", "()B"⟩
abbrev cJ0_isLatin1_aae02 : ByteArray := prog_33_method_154_code
def yJ0_isLatin1_aae02 : MethodName := ⟨RJ0, "isLatin1", "()Z"⟩
abbrev cJ0_checkIndex_df160 : ByteArray := prog_33_method_155_code
def yJ0_checkIndex_df160 : MethodName := ⟨RJ0, "checkIndex", "(II)V"⟩
abbrev cJ0_checkBoundsOffCount_cabcc : ByteArray := prog_33_method_157_code
def yJ0_checkBoundsOffCount_cabcc : MethodName := ⟨RJ0, "checkBoundsOffCount", "(III)I"⟩
abbrev cJ0_checkBoundsBeginEnd_23922 : ByteArray := prog_33_method_158_code
def yJ0_checkBoundsBeginEnd_23922 : MethodName := ⟨RJ0, "checkBoundsBeginEnd", "(III)V"⟩
def RJ4 : String := "java/lang/StringBuilder"
def TJ4 : u_T := fun k => match k with
  | 0 => ("java/lang/AbstractStringBuilder", "value", "[B", false)
  | 1 => ("java/lang/AbstractStringBuilder", "coder", "B", false)
  | 2 => ("java/lang/AbstractStringBuilder", "maybeLatin1", "Z", false)
  | _ => ("java/lang/AbstractStringBuilder", "count", "I", false)
def tyJ4 : Nat → FieldType := fun k => match k with
  | 0 => .array .byte
  | 1 => .byte
  | 2 => .boolean
  | _ => .int
abbrev wsJ40 : List Cond := u_ws RJ4 TJ4 4
theorem nmJ4 : ∀ a, a < 4 → ∀ b, b < 4 → a ≠ b → (TJ4 a).2.1 ≠ (TJ4 b).2.1 := by decide +kernel
theorem tyJ4_ok : ∀ k, k < 4 → parseFieldDescriptor (TJ4 k).2.2.1 = some (tyJ4 k) := by decide +kernel
abbrev cJ4_init_da8c8 : ByteArray := prog_34_method_1_code
def yJ4_init_da8c8 : MethodName := ⟨RJ4, "<init>", "()V"⟩
abbrev cJ4_append_15ec4 : ByteArray := prog_34_method_7_code
def yJ4_append_15ec4 : MethodName := ⟨RJ4, "append", "(Ljava/lang/String;)Ljava/lang/StringBuilder;"⟩
abbrev cJ4_append_cf468 : ByteArray := prog_34_method_14_code
def yJ4_append_cf468 : MethodName := ⟨RJ4, "append", "(C)Ljava/lang/StringBuilder;"⟩
abbrev cJ4_append_bf812 : ByteArray := prog_34_method_15_code
def yJ4_append_bf812 : MethodName := ⟨RJ4, "append", "(I)Ljava/lang/StringBuilder;"⟩
abbrev cJ4_toString_0e30d : ByteArray := prog_34_method_42_code
def yJ4_toString_0e30d : MethodName := ⟨RJ4, "toString", "()Ljava/lang/String;"⟩
abbrev cJ4_length_8abf5 : ByteArray := prog_34_method_93_code
def yJ4_length_8abf5 : MethodName := ⟨RJ4, "length", "()I"⟩
def RJ1 : String := "java/lang/StringLatin1"
def TJ1 : u_T := fun k => match k with
  | _ => ("", "", "", false)
def tyJ1 : Nat → FieldType := fun k => match k with
  | _ => .int
abbrev wsJ10 : List Cond := u_ws RJ1 TJ1 0
theorem nmJ1 : ∀ a, a < 0 → ∀ b, b < 0 → a ≠ b → (TJ1 a).2.1 ≠ (TJ1 b).2.1 := by decide +kernel
theorem tyJ1_ok : ∀ k, k < 0 → parseFieldDescriptor (TJ1 k).2.2.1 = some (tyJ1 k) := by decide +kernel
abbrev cJ1_charAt_3b067 : ByteArray := prog_35_method_2_code
def yJ1_charAt_3b067 : MethodName := ⟨RJ1, "charAt", "([BI)C"⟩
abbrev cJ1_canEncode_fc78d : ByteArray := prog_35_method_3_code
def yJ1_canEncode_fc78d : MethodName := ⟨RJ1, "canEncode", "(C)Z"⟩
abbrev cJ1_inflate_0e8fd : ByteArray := prog_35_method_50_code
def yJ1_inflate_0e8fd : MethodName := ⟨RJ1, "inflate", "([BI[BII)V"⟩
def RJ2 : String := "java/lang/StringUTF16"
def TJ2 : u_T := fun k => match k with
  | _ => ("", "", "", false)
def tyJ2 : Nat → FieldType := fun k => match k with
  | _ => .int
abbrev wsJ20 : List Cond := u_ws RJ2 TJ2 0
theorem nmJ2 : ∀ a, a < 0 → ∀ b, b < 0 → a ≠ b → (TJ2 a).2.1 ≠ (TJ2 b).2.1 := by decide +kernel
theorem tyJ2_ok : ∀ k, k < 0 → parseFieldDescriptor (TJ2 k).2.2.1 = some (tyJ2 k) := by decide +kernel
abbrev cJ2_newBytesFor_77867 : ByteArray := prog_36_method_2_code
def yJ2_newBytesFor_77867 : MethodName := ⟨RJ2, "newBytesFor", "(I)[B"⟩
abbrev cJ2_newBytesLength_0f7a4 : ByteArray := prog_36_method_3_code
def yJ2_newBytesLength_0f7a4 : MethodName := ⟨RJ2, "newBytesLength", "(I)I"⟩
abbrev cJ2_putChar_b72d1 : ByteArray := prog_36_method_4_code
def yJ2_putChar_b72d1 : MethodName := ⟨RJ2, "putChar", "([BII)V"⟩
abbrev cJ2_getChar_3b067 : ByteArray := prog_36_method_5_code
def yJ2_getChar_3b067 : MethodName := ⟨RJ2, "getChar", "([BI)C"⟩
abbrev cJ2_length_9d52b : ByteArray := prog_36_method_6_code
def yJ2_length_9d52b : MethodName := ⟨RJ2, "length", "([B)I"⟩
abbrev cJ2_coderFromArrayLen_85cad : ByteArray := prog_36_method_15_code
def yJ2_coderFromArrayLen_85cad : MethodName := ⟨RJ2, "coderFromArrayLen", "([BI)B"⟩
abbrev cJ2_compress_39247 : ByteArray := prog_36_method_17_code
def yJ2_compress_39247 : MethodName := ⟨RJ2, "compress", "([BII)[B"⟩
abbrev cJ2_compress_5af95 : ByteArray := prog_36_method_22_code
def yJ2_compress_5af95 : MethodName := ⟨RJ2, "compress", "([BI[BII)I"⟩
abbrev cJ2_putCharSB_b72d1 : ByteArray := prog_36_method_71_code
def yJ2_putCharSB_b72d1 : MethodName := ⟨RJ2, "putCharSB", "([BII)V"⟩
abbrev cJ2_getChars_46870 : ByteArray := prog_36_method_77_code
def yJ2_getChars_46870 : MethodName := ⟨RJ2, "getChars", "(III[B)I"⟩
abbrev cJ2_putCharsAt_cd4e5 : ByteArray := prog_36_method_81_code
def yJ2_putCharsAt_cd4e5 : MethodName := ⟨RJ2, "putCharsAt", "([BICCCC)I"⟩
abbrev cJ2_charAt_3b067 : ByteArray := prog_36_method_83_code
def yJ2_charAt_3b067 : MethodName := ⟨RJ2, "charAt", "([BI)C"⟩
abbrev cJ2_inflate_0e8fd : ByteArray := prog_36_method_86_code
def yJ2_inflate_0e8fd : MethodName := ⟨RJ2, "inflate", "([BI[BII)V"⟩
abbrev cJ2_getChars_ba4f3 : ByteArray := prog_36_method_89_code
def yJ2_getChars_ba4f3 : MethodName := ⟨RJ2, "getChars", "(II[B)I"⟩
abbrev cJ2_checkIndex_2214a : ByteArray := prog_36_method_91_code
def yJ2_checkIndex_2214a : MethodName := ⟨RJ2, "checkIndex", "(I[B)V"⟩
abbrev cJ2_checkBoundsBeginEnd_d044e : ByteArray := prog_36_method_93_code
def yJ2_checkBoundsBeginEnd_d044e : MethodName := ⟨RJ2, "checkBoundsBeginEnd", "(II[B)V"⟩
abbrev cJ2_checkBoundsOffCount_d044e : ByteArray := prog_36_method_94_code
def yJ2_checkBoundsOffCount_d044e : MethodName := ⟨RJ2, "checkBoundsOffCount", "(II[B)V"⟩
def RJ10 : String := "java/lang/System"
def TJ10 : u_T := fun k => match k with
  | _ => ("", "", "", false)
def tyJ10 : Nat → FieldType := fun k => match k with
  | _ => .int
abbrev wsJ100 : List Cond := u_ws RJ10 TJ10 0
theorem nmJ10 : ∀ a, a < 0 → ∀ b, b < 0 → a ≠ b → (TJ10 a).2.1 ≠ (TJ10 b).2.1 := by decide +kernel
theorem tyJ10_ok : ∀ k, k < 0 → parseFieldDescriptor (TJ10 k).2.2.1 = some (tyJ10 k) := by decide +kernel
def RJxfd54e : String := "java/lang/constant/Constable"
def TJxfd54e : u_T := fun k => match k with
  | _ => ("", "", "", false)
def tyJxfd54e : Nat → FieldType := fun k => match k with
  | _ => .int
abbrev wsJxfd54e0 : List Cond := u_ws RJxfd54e TJxfd54e 0
theorem nmJxfd54e : ∀ a, a < 0 → ∀ b, b < 0 → a ≠ b → (TJxfd54e a).2.1 ≠ (TJxfd54e b).2.1 := by decide +kernel
theorem tyJxfd54e_ok : ∀ k, k < 0 → parseFieldDescriptor (TJxfd54e k).2.2.1 = some (tyJxfd54e k) := by decide +kernel
def RJx3cf43 : String := "java/lang/constant/ConstantDesc"
def TJx3cf43 : u_T := fun k => match k with
  | _ => ("", "", "", false)
def tyJx3cf43 : Nat → FieldType := fun k => match k with
  | _ => .int
abbrev wsJx3cf430 : List Cond := u_ws RJx3cf43 TJx3cf43 0
theorem nmJx3cf43 : ∀ a, a < 0 → ∀ b, b < 0 → a ≠ b → (TJx3cf43 a).2.1 ≠ (TJx3cf43 b).2.1 := by decide +kernel
theorem tyJx3cf43_ok : ∀ k, k < 0 → parseFieldDescriptor (TJx3cf43 k).2.2.1 = some (tyJx3cf43 k) := by decide +kernel
def RJxa1e45 : String := "java/util/AbstractCollection"
def TJxa1e45 : u_T := fun k => match k with
  | _ => ("", "", "", false)
def tyJxa1e45 : Nat → FieldType := fun k => match k with
  | _ => .int
abbrev wsJxa1e450 : List Cond := u_ws RJxa1e45 TJxa1e45 0
theorem nmJxa1e45 : ∀ a, a < 0 → ∀ b, b < 0 → a ≠ b → (TJxa1e45 a).2.1 ≠ (TJxa1e45 b).2.1 := by decide +kernel
theorem tyJxa1e45_ok : ∀ k, k < 0 → parseFieldDescriptor (TJxa1e45 k).2.2.1 = some (tyJxa1e45 k) := by decide +kernel
abbrev cJxa1e45_init_da8c8 : ByteArray := prog_41_method_1_code
def yJxa1e45_init_da8c8 : MethodName := ⟨RJxa1e45, "<init>", "()V"⟩
def RJxc12de : String := "java/util/AbstractList"
def TJxc12de : u_T := fun k => match k with
  | _ => ("", "", "", false)
def tyJxc12de : Nat → FieldType := fun k => match k with
  | _ => .int
abbrev wsJxc12de0 : List Cond := u_ws RJxc12de TJxc12de 0
theorem nmJxc12de : ∀ a, a < 0 → ∀ b, b < 0 → a ≠ b → (TJxc12de a).2.1 ≠ (TJxc12de b).2.1 := by decide +kernel
theorem tyJxc12de_ok : ∀ k, k < 0 → parseFieldDescriptor (TJxc12de k).2.2.1 = some (tyJxc12de k) := by decide +kernel
abbrev cJxc12de_init_da8c8 : ByteArray := prog_42_method_1_code
def yJxc12de_init_da8c8 : MethodName := ⟨RJxc12de, "<init>", "()V"⟩
def RJx35411 : String := "java/util/ArrayList$Itr"
def TJx35411 : u_T := fun k => match k with
  | 0 => ("java/util/ArrayList$Itr", "cursor", "I", false)
  | 1 => ("java/util/ArrayList$Itr", "lastRet", "I", false)
  | 2 => ("java/util/ArrayList$Itr", "expectedModCount", "I", false)
  | _ => ("java/util/ArrayList$Itr", "this$0", "Ljava/util/ArrayList;", true)
def tyJx35411 : Nat → FieldType := fun k => match k with
  | 0 => .int
  | 1 => .int
  | 2 => .int
  | _ => .object "java/util/ArrayList"
abbrev wsJx354110 : List Cond := u_ws RJx35411 TJx35411 4
theorem nmJx35411 : ∀ a, a < 4 → ∀ b, b < 4 → a ≠ b → (TJx35411 a).2.1 ≠ (TJx35411 b).2.1 := by decide +kernel
theorem tyJx35411_ok : ∀ k, k < 4 → parseFieldDescriptor (TJx35411 k).2.2.1 = some (tyJx35411 k) := by decide +kernel
abbrev cJx35411_init_45d68 : ByteArray := prog_44_method_1_code
def yJx35411_init_45d68 : MethodName := ⟨RJx35411, "<init>", "(Ljava/util/ArrayList;)V"⟩
abbrev cJx35411_hasNext_aae02 : ByteArray := prog_44_method_2_code
def yJx35411_hasNext_aae02 : MethodName := ⟨RJx35411, "hasNext", "()Z"⟩
abbrev cJx35411_next_0502b : ByteArray := prog_44_method_3_code
def yJx35411_next_0502b : MethodName := ⟨RJx35411, "next", "()Ljava/lang/Object;"⟩
abbrev cJx35411_checkForComodification_da8c8 : ByteArray := prog_44_method_6_code
def yJx35411_checkForComodification_da8c8 : MethodName := ⟨RJx35411, "checkForComodification", "()V"⟩
def RJx4a65c : String := "java/util/ArrayList"
def TJx4a65c : u_T := fun k => match k with
  | 0 => ("java/util/AbstractList", "modCount", "I", false)
  | 1 => ("java/util/ArrayList", "elementData", "[Ljava/lang/Object;", false)
  | _ => ("java/util/ArrayList", "size", "I", false)
def tyJx4a65c : Nat → FieldType := fun k => match k with
  | 0 => .int
  | 1 => .array (.object "java/lang/Object")
  | _ => .int
abbrev wsJx4a65c0 : List Cond := u_ws RJx4a65c TJx4a65c 3
theorem nmJx4a65c : ∀ a, a < 3 → ∀ b, b < 3 → a ≠ b → (TJx4a65c a).2.1 ≠ (TJx4a65c b).2.1 := by decide +kernel
theorem tyJx4a65c_ok : ∀ k, k < 3 → parseFieldDescriptor (TJx4a65c k).2.2.1 = some (tyJx4a65c k) := by decide +kernel
abbrev cJx4a65c_init_da8c8 : ByteArray := prog_43_method_2_code
def yJx4a65c_init_da8c8 : MethodName := ⟨RJx4a65c, "<init>", "()V"⟩
abbrev cJx4a65c_grow_92f84 : ByteArray := prog_43_method_6_code
def yJx4a65c_grow_92f84 : MethodName := ⟨RJx4a65c, "grow", "(I)[Ljava/lang/Object;"⟩
abbrev cJx4a65c_grow_d5877 : ByteArray := prog_43_method_7_code
def yJx4a65c_grow_d5877 : MethodName := ⟨RJx4a65c, "grow", "()[Ljava/lang/Object;"⟩
abbrev cJx4a65c_size_8abf5 : ByteArray := prog_43_method_8_code
def yJx4a65c_size_8abf5 : MethodName := ⟨RJx4a65c, "size", "()I"⟩
abbrev cJx4a65c_isEmpty_aae02 : ByteArray := prog_43_method_9_code
def yJx4a65c_isEmpty_aae02 : MethodName := ⟨RJx4a65c, "isEmpty", "()Z"⟩
abbrev cJx4a65c_elementData_915e3 : ByteArray := prog_43_method_18_code
def yJx4a65c_elementData_915e3 : MethodName := ⟨RJx4a65c, "elementData", "(I)Ljava/lang/Object;"⟩
abbrev cJx4a65c_get_915e3 : ByteArray := prog_43_method_20_code
def yJx4a65c_get_915e3 : MethodName := ⟨RJx4a65c, "get", "(I)Ljava/lang/Object;"⟩
abbrev cJx4a65c_add_72be8 : ByteArray := prog_43_method_24_code
def yJx4a65c_add_72be8 : MethodName := ⟨RJx4a65c, "add", "(Ljava/lang/Object;[Ljava/lang/Object;I)V"⟩
abbrev cJx4a65c_add_9ea2d : ByteArray := prog_43_method_25_code
def yJx4a65c_add_9ea2d : MethodName := ⟨RJx4a65c, "add", "(Ljava/lang/Object;)Z"⟩
abbrev cJx4a65c_iterator_32c93 : ByteArray := prog_43_method_55_code
def yJx4a65c_iterator_32c93 : MethodName := ⟨RJx4a65c, "iterator", "()Ljava/util/Iterator;"⟩
def RJ7 : String := "java/util/Arrays"
def TJ7 : u_T := fun k => match k with
  | _ => ("", "", "", false)
def tyJ7 : Nat → FieldType := fun k => match k with
  | _ => .int
abbrev wsJ70 : List Cond := u_ws RJ7 TJ7 0
theorem nmJ7 : ∀ a, a < 0 → ∀ b, b < 0 → a ≠ b → (TJ7 a).2.1 ≠ (TJ7 b).2.1 := by decide +kernel
theorem tyJ7_ok : ∀ k, k < 0 → parseFieldDescriptor (TJ7 k).2.2.1 = some (tyJ7 k) := by decide +kernel
abbrev cJ7_copyOf_1904c : ByteArray := prog_45_method_119_code
def yJ7_copyOf_1904c : MethodName := ⟨RJ7, "copyOf", "([Ljava/lang/Object;I)[Ljava/lang/Object;"⟩
abbrev cJ7_copyOf_6403c : ByteArray := prog_45_method_120_code
def yJ7_copyOf_6403c : MethodName := ⟨RJ7, "copyOf", "([Ljava/lang/Object;ILjava/lang/Class;)[Ljava/lang/Object;"⟩
abbrev cJ7_copyOf_9075b : ByteArray := prog_45_method_121_code
def yJ7_copyOf_9075b : MethodName := ⟨RJ7, "copyOf", "([BI)[B"⟩
abbrev cJ7_checkLength_df160 : ByteArray := prog_45_method_131_code
def yJ7_checkLength_df160 : MethodName := ⟨RJ7, "checkLength", "(II)V"⟩
abbrev cJ7_copyOfRange_39247 : ByteArray := prog_45_method_132_code
def yJ7_copyOfRange_39247 : MethodName := ⟨RJ7, "copyOfRange", "([BII)[B"⟩
abbrev cJ7_copyOfRangeByte_39247 : ByteArray := prog_45_method_133_code
def yJ7_copyOfRangeByte_39247 : MethodName := ⟨RJ7, "copyOfRangeByte", "([BII)[B"⟩
def RJx5ef63 : String := "java/util/Collection"
def TJx5ef63 : u_T := fun k => match k with
  | _ => ("", "", "", false)
def tyJx5ef63 : Nat → FieldType := fun k => match k with
  | _ => .int
abbrev wsJx5ef630 : List Cond := u_ws RJx5ef63 TJx5ef63 0
theorem nmJx5ef63 : ∀ a, a < 0 → ∀ b, b < 0 → a ≠ b → (TJx5ef63 a).2.1 ≠ (TJx5ef63 b).2.1 := by decide +kernel
theorem tyJx5ef63_ok : ∀ k, k < 0 → parseFieldDescriptor (TJx5ef63 k).2.2.1 = some (tyJx5ef63 k) := by decide +kernel
def RJx4d0d8 : String := "java/util/Iterator"
def TJx4d0d8 : u_T := fun k => match k with
  | _ => ("", "", "", false)
def tyJx4d0d8 : Nat → FieldType := fun k => match k with
  | _ => .int
abbrev wsJx4d0d80 : List Cond := u_ws RJx4d0d8 TJx4d0d8 0
theorem nmJx4d0d8 : ∀ a, a < 0 → ∀ b, b < 0 → a ≠ b → (TJx4d0d8 a).2.1 ≠ (TJx4d0d8 b).2.1 := by decide +kernel
theorem tyJx4d0d8_ok : ∀ k, k < 0 → parseFieldDescriptor (TJx4d0d8 k).2.2.1 = some (tyJx4d0d8 k) := by decide +kernel
def RJxbd725 : String := "java/util/List"
def TJxbd725 : u_T := fun k => match k with
  | _ => ("", "", "", false)
def tyJxbd725 : Nat → FieldType := fun k => match k with
  | _ => .int
abbrev wsJxbd7250 : List Cond := u_ws RJxbd725 TJxbd725 0
theorem nmJxbd725 : ∀ a, a < 0 → ∀ b, b < 0 → a ≠ b → (TJxbd725 a).2.1 ≠ (TJxbd725 b).2.1 := by decide +kernel
theorem tyJxbd725_ok : ∀ k, k < 0 → parseFieldDescriptor (TJxbd725 k).2.2.1 = some (tyJxbd725 k) := by decide +kernel
def RJ15 : String := "java/util/Objects"
def TJ15 : u_T := fun k => match k with
  | _ => ("", "", "", false)
def tyJ15 : Nat → FieldType := fun k => match k with
  | _ => .int
abbrev wsJ150 : List Cond := u_ws RJ15 TJ15 0
theorem nmJ15 : ∀ a, a < 0 → ∀ b, b < 0 → a ≠ b → (TJ15 a).2.1 ≠ (TJ15 b).2.1 := by decide +kernel
theorem tyJ15_ok : ∀ k, k < 0 → parseFieldDescriptor (TJ15 k).2.2.1 = some (tyJ15 k) := by decide +kernel
abbrev cJ15_checkIndex_7cf53 : ByteArray := prog_49_method_17_code
def yJ15_checkIndex_7cf53 : MethodName := ⟨RJ15, "checkIndex", "(II)I"⟩
def RJxf0a74 : String := "java/util/RandomAccess"
def TJxf0a74 : u_T := fun k => match k with
  | _ => ("", "", "", false)
def tyJxf0a74 : Nat → FieldType := fun k => match k with
  | _ => .int
abbrev wsJxf0a740 : List Cond := u_ws RJxf0a74 TJxf0a74 0
theorem nmJxf0a74 : ∀ a, a < 0 → ∀ b, b < 0 → a ≠ b → (TJxf0a74 a).2.1 ≠ (TJxf0a74 b).2.1 := by decide +kernel
theorem tyJxf0a74_ok : ∀ k, k < 0 → parseFieldDescriptor (TJxf0a74 k).2.2.1 = some (tyJxf0a74 k) := by decide +kernel
def RJxa66e6 : String := "java/util/SequencedCollection"
def TJxa66e6 : u_T := fun k => match k with
  | _ => ("", "", "", false)
def tyJxa66e6 : Nat → FieldType := fun k => match k with
  | _ => .int
abbrev wsJxa66e60 : List Cond := u_ws RJxa66e6 TJxa66e6 0
theorem nmJxa66e6 : ∀ a, a < 0 → ∀ b, b < 0 → a ≠ b → (TJxa66e6 a).2.1 ≠ (TJxa66e6 b).2.1 := by decide +kernel
theorem tyJxa66e6_ok : ∀ k, k < 0 → parseFieldDescriptor (TJxa66e6 k).2.2.1 = some (tyJxa66e6 k) := by decide +kernel
def RJ8 : String := "jdk/internal/util/ArraysSupport"
def TJ8 : u_T := fun k => match k with
  | _ => ("", "", "", false)
def tyJ8 : Nat → FieldType := fun k => match k with
  | _ => .int
abbrev wsJ80 : List Cond := u_ws RJ8 TJ8 0
theorem nmJ8 : ∀ a, a < 0 → ∀ b, b < 0 → a ≠ b → (TJ8 a).2.1 ≠ (TJ8 b).2.1 := by decide +kernel
theorem tyJ8_ok : ∀ k, k < 0 → parseFieldDescriptor (TJ8 k).2.2.1 = some (tyJ8 k) := by decide +kernel
abbrev cJ8_newLength_cabcc : ByteArray := prog_52_method_27_code
def yJ8_newLength_cabcc : MethodName := ⟨RJ8, "newLength", "(III)I"⟩
abbrev cJ8_hugeLength_7cf53 : ByteArray := prog_52_method_28_code
def yJ8_hugeLength_7cf53 : MethodName := ⟨RJ8, "hugeLength", "(II)I"⟩
def RJ3 : String := "jdk/internal/util/Preconditions"
def TJ3 : u_T := fun k => match k with
  | _ => ("", "", "", false)
def tyJ3 : Nat → FieldType := fun k => match k with
  | _ => .int
abbrev wsJ30 : List Cond := u_ws RJ3 TJ3 0
theorem nmJ3 : ∀ a, a < 0 → ∀ b, b < 0 → a ≠ b → (TJ3 a).2.1 ≠ (TJ3 b).2.1 := by decide +kernel
theorem tyJ3_ok : ∀ k, k < 0 → parseFieldDescriptor (TJ3 k).2.2.1 = some (tyJ3 k) := by decide +kernel
abbrev cJ3_checkIndex_8e157 : ByteArray := prog_53_method_11_code
def yJ3_checkIndex_8e157 : MethodName := ⟨RJ3, "checkIndex", "(IILjava/util/function/BiFunction;)I"⟩
abbrev cJ3_checkFromToIndex_8c36e : ByteArray := prog_53_method_12_code
def yJ3_checkFromToIndex_8c36e : MethodName := ⟨RJ3, "checkFromToIndex", "(IIILjava/util/function/BiFunction;)I"⟩
abbrev cJ3_checkFromIndexSize_8c36e : ByteArray := prog_53_method_13_code
def yJ3_checkFromIndexSize_8c36e : MethodName := ⟨RJ3, "checkFromIndexSize", "(IIILjava/util/function/BiFunction;)I"⟩
def RL : String := "WaveUpgradeLaw"
abbrev cL_cell : ByteArray := method_2_code
def yL_cell : MethodName := ⟨RL, "cell", "([II)I"⟩
abbrev cL_pick : ByteArray := method_3_code
def yL_pick : MethodName := ⟨RL, "pick", "([III)I"⟩
abbrev cL_feeds : ByteArray := method_4_code
def yL_feeds : MethodName := ⟨RL, "feeds", "(LWaveUpgrade;Ljava/lang/String;)Z"⟩
abbrev cL_alike : ByteArray := method_5_code
def yL_alike : MethodName := ⟨RL, "alike", "(LWaveUpgrade;LWaveUpgradeLaw$World;)Z"⟩
abbrev cL_acts : ByteArray := method_6_code
def yL_acts : MethodName := ⟨RL, "acts", "(LWaveUpgrade;LWaveUpgradeLaw$World;[II)Z"⟩
abbrev cL_law : ByteArray := code
def yL_law : MethodName := ⟨RL, "law", "([I)Z"⟩
abbrev cL_holds : ByteArray := method_8_code
def yL_holds : MethodName := ⟨RL, "holds", "(LWaveUpgrade;LWaveUpgradeLaw$World;)Z"⟩
abbrev cL_begins : ByteArray := method_9_code
def yL_begins : MethodName := ⟨RL, "begins", "(LWaveUpgrade;LWaveUpgradeLaw$World;[II)Z"⟩
abbrev cL_ends : ByteArray := method_10_code
def yL_ends : MethodName := ⟨RL, "ends", "(LWaveUpgrade;LWaveUpgradeLaw$World;)Z"⟩
