def RX0 : String := "RiverReaches$1"
def TX0 : u_T := fun k => match k with
  | _ => ("", "", "", false)
def tyX0 : Nat → FieldType := fun k => match k with
  | _ => .int
theorem nmX0 : ∀ a, a < 0 → ∀ b, b < 0 → a ≠ b → (TX0 a).2.1 ≠ (TX0 b).2.1 := by decide +kernel
theorem tyX0_ok : ∀ k, k < 0 → parseFieldDescriptor (TX0 k).2.2.1 = some (tyX0 k) := by decide +kernel
def RX1 : String := "RiverReaches$Command"
def TX1 : u_T := fun k => match k with
  | 0 => ("RiverReaches$Command", "kind", "LRiverReaches$Kind;", false)
  | 1 => ("RiverReaches$Command", "first", "I", false)
  | 2 => ("RiverReaches$Command", "second", "I", false)
  | _ => ("RiverReaches$Command", "third", "I", false)
def tyX1 : Nat → FieldType := fun k => match k with
  | 0 => .object "RiverReaches$Kind"
  | 1 => .int
  | 2 => .int
  | _ => .int
theorem nmX1 : ∀ a, a < 4 → ∀ b, b < 4 → a ≠ b → (TX1 a).2.1 ≠ (TX1 b).2.1 := by decide +kernel
theorem tyX1_ok : ∀ k, k < 4 → parseFieldDescriptor (TX1 k).2.2.1 = some (tyX1 k) := by decide +kernel
abbrev cX1_init : ByteArray := prog_3_method_1_code
def yX1_init : MethodName := ⟨RX1, "<init>", "()V"⟩
abbrev cX1_put : ByteArray := prog_3_method_2_code
def yX1_put : MethodName := ⟨RX1, "put", "(II)V"⟩
def RX2 : String := "RiverReaches$Denial"
def TX2 : u_T := fun k => match k with
  | 0 => ("RiverReaches$Denial", "number", "I", false)
  | 1 => ("RiverReaches$Denial", "detail", "I", false)
  | 2 => ("RiverReaches$Denial", "cause", "I", false)
  | _ => ("RiverReaches$Denial", "causeDetail", "I", false)
def tyX2 : Nat → FieldType := fun k => match k with
  | 0 => .int
  | 1 => .int
  | 2 => .int
  | _ => .int
theorem nmX2 : ∀ a, a < 4 → ∀ b, b < 4 → a ≠ b → (TX2 a).2.1 ≠ (TX2 b).2.1 := by decide +kernel
theorem tyX2_ok : ∀ k, k < 4 → parseFieldDescriptor (TX2 k).2.2.1 = some (tyX2 k) := by decide +kernel
abbrev cX2_init : ByteArray := prog_4_method_1_code
def yX2_init : MethodName := ⟨RX2, "<init>", "()V"⟩
abbrev cX2_keep : ByteArray := prog_4_method_2_code
def yX2_keep : MethodName := ⟨RX2, "keep", "(IIII)V"⟩
def RX3 : String := "RiverReaches$History"
def TX3 : u_T := fun k => match k with
  | 0 => ("RiverReaches$History", "rows", "[LRiverReaches$River;", true)
  | 1 => ("RiverReaches$History", "next", "I", false)
  | _ => ("RiverReaches$History", "count", "I", false)
def tyX3 : Nat → FieldType := fun k => match k with
  | 0 => .array (.object "RiverReaches$River")
  | 1 => .int
  | _ => .int
theorem nmX3 : ∀ a, a < 3 → ∀ b, b < 3 → a ≠ b → (TX3 a).2.1 ≠ (TX3 b).2.1 := by decide +kernel
theorem tyX3_ok : ∀ k, k < 3 → parseFieldDescriptor (TX3 k).2.2.1 = some (tyX3 k) := by decide +kernel
abbrev cX3_init : ByteArray := prog_5_method_1_code
def yX3_init : MethodName := ⟨RX3, "<init>", "()V"⟩
abbrev cX3_nextRow : ByteArray := prog_5_method_2_code
def yX3_nextRow : MethodName := ⟨RX3, "nextRow", "()LRiverReaches$River;"⟩
abbrev cX3_note : ByteArray := prog_5_method_3_code
def yX3_note : MethodName := ⟨RX3, "note", "(LRiverReaches$River;)V"⟩
abbrev cX3_confirm : ByteArray := prog_5_method_4_code
def yX3_confirm : MethodName := ⟨RX3, "confirm", "()V"⟩
abbrev cX3_putBack : ByteArray := prog_5_method_5_code
def yX3_putBack : MethodName := ⟨RX3, "putBack", "(LRiverReaches$River;)V"⟩
abbrev cX3_takeBack : ByteArray := prog_5_method_6_code
def yX3_takeBack : MethodName := ⟨RX3, "takeBack", "(LRiverReaches$River;)V"⟩
abbrev cX3_forgetAll : ByteArray := prog_5_method_7_code
def yX3_forgetAll : MethodName := ⟨RX3, "forgetAll", "()V"⟩
def RX4 : String := "RiverReaches$Kind"
def TX4 : u_T := fun k => match k with
  | _ => ("", "", "", false)
def tyX4 : Nat → FieldType := fun k => match k with
  | _ => .int
theorem nmX4 : ∀ a, a < 0 → ∀ b, b < 0 → a ≠ b → (TX4 a).2.1 ≠ (TX4 b).2.1 := by decide +kernel
theorem tyX4_ok : ∀ k, k < 0 → parseFieldDescriptor (TX4 k).2.2.1 = some (tyX4 k) := by decide +kernel
def RX5 : String := "RiverReaches$Pulse"
def TX5 : u_T := fun k => match k with
  | 0 => ("RiverReaches$Pulse", "first", "I", false)
  | 1 => ("RiverReaches$Pulse", "hours", "I", false)
  | _ => ("RiverReaches$Pulse", "rate", "I", false)
def tyX5 : Nat → FieldType := fun k => match k with
  | 0 => .int
  | 1 => .int
  | _ => .int
theorem nmX5 : ∀ a, a < 3 → ∀ b, b < 3 → a ≠ b → (TX5 a).2.1 ≠ (TX5 b).2.1 := by decide +kernel
theorem tyX5_ok : ∀ k, k < 3 → parseFieldDescriptor (TX5 k).2.2.1 = some (tyX5 k) := by decide +kernel
abbrev cX5_init : ByteArray := prog_7_method_1_code
def yX5_init : MethodName := ⟨RX5, "<init>", "()V"⟩
abbrev cX5_begin : ByteArray := prog_7_method_2_code
def yX5_begin : MethodName := ⟨RX5, "begin", "(III)V"⟩
abbrev cX5_end : ByteArray := prog_7_method_3_code
def yX5_end : MethodName := ⟨RX5, "end", "()I"⟩
abbrev cX5_rateIn : ByteArray := prog_7_method_4_code
def yX5_rateIn : MethodName := ⟨RX5, "rateIn", "(I)I"⟩
def RX6 : String := "RiverReaches$Reach"
def TX6 : u_T := fun k => match k with
  | 0 => ("RiverReaches$Reach", "surface", "I", false)
  | 1 => ("RiverReaches$Reach", "percentage", "I", false)
  | 2 => ("RiverReaches$Reach", "capacity", "I", false)
  | 3 => ("RiverReaches$Reach", "lateral", "I", false)
  | 4 => ("RiverReaches$Reach", "volume", "I", false)
  | 5 => ("RiverReaches$Reach", "warning", "I", false)
  | 6 => ("RiverReaches$Reach", "flood", "I", false)
  | 7 => ("RiverReaches$Reach", "setting", "I", false)
  | 8 => ("RiverReaches$Reach", "rule", "C", false)
  | 9 => ("RiverReaches$Reach", "statusBefore", "I", false)
  | _ => ("RiverReaches$Reach", "leaving", "I", false)
def tyX6 : Nat → FieldType := fun k => match k with
  | 0 => .int
  | 1 => .int
  | 2 => .int
  | 3 => .int
  | 4 => .int
  | 5 => .int
  | 6 => .int
  | 7 => .int
  | 8 => .char
  | 9 => .int
  | _ => .int
theorem nmX6 : ∀ a, a < 11 → ∀ b, b < 11 → a ≠ b → (TX6 a).2.1 ≠ (TX6 b).2.1 := by decide +kernel
theorem tyX6_ok : ∀ k, k < 11 → parseFieldDescriptor (TX6 k).2.2.1 = some (tyX6 k) := by decide +kernel
abbrev cX6_init : ByteArray := prog_8_method_1_code
def yX6_init : MethodName := ⟨RX6, "<init>", "()V"⟩
abbrev cX6_begin : ByteArray := prog_8_method_2_code
def yX6_begin : MethodName := ⟨RX6, "begin", "(III)V"⟩
abbrev cX6_copyFrom : ByteArray := prog_8_method_3_code
def yX6_copyFrom : MethodName := ⟨RX6, "copyFrom", "(LRiverReaches$Reach;)V"⟩
abbrev cX6_levelNow : ByteArray := prog_8_method_4_code
def yX6_levelNow : MethodName := ⟨RX6, "levelNow", "()I"⟩
abbrev cX6_statusNow : ByteArray := prog_8_method_5_code
def yX6_statusNow : MethodName := ⟨RX6, "statusNow", "()I"⟩
abbrev cX6_comesBefore : ByteArray := prog_8_method_6_code
def yX6_comesBefore : MethodName := ⟨RX6, "comesBefore", "(LRiverReaches$Reach;)Z"⟩
def RX7 : String := "RiverReaches$River"
def TX7 : u_T := fun k => match k with
  | 0 => ("RiverReaches$River", "reaches", "[LRiverReaches$Reach;", true)
  | 1 => ("RiverReaches$River", "pulses", "[LRiverReaches$Pulse;", true)
  | 2 => ("RiverReaches$River", "reachCount", "I", false)
  | 3 => ("RiverReaches$River", "pulseCount", "I", false)
  | 4 => ("RiverReaches$River", "hour", "I", false)
  | 5 => ("RiverReaches$River", "totalIn", "I", false)
  | 6 => ("RiverReaches$River", "totalOut", "I", false)
  | _ => ("RiverReaches$River", "alarms", "I", false)
def tyX7 : Nat → FieldType := fun k => match k with
  | 0 => .array (.object "RiverReaches$Reach")
  | 1 => .array (.object "RiverReaches$Pulse")
  | 2 => .int
  | 3 => .int
  | 4 => .int
  | 5 => .int
  | 6 => .int
  | _ => .int
theorem nmX7 : ∀ a, a < 8 → ∀ b, b < 8 → a ≠ b → (TX7 a).2.1 ≠ (TX7 b).2.1 := by decide +kernel
theorem tyX7_ok : ∀ k, k < 8 → parseFieldDescriptor (TX7 k).2.2.1 = some (tyX7 k) := by decide +kernel
abbrev cX7_init : ByteArray := prog_9_method_1_code
def yX7_init : MethodName := ⟨RX7, "<init>", "()V"⟩
abbrev cX7_copyFrom : ByteArray := prog_9_method_2_code
def yX7_copyFrom : MethodName := ⟨RX7, "copyFrom", "(LRiverReaches$River;)V"⟩
abbrev cX7_hasReach : ByteArray := prog_9_method_3_code
def yX7_hasReach : MethodName := ⟨RX7, "hasReach", "(I)Z"⟩
abbrev cX7_row : ByteArray := prog_9_method_4_code
def yX7_row : MethodName := ⟨RX7, "row", "(I)LRiverReaches$Reach;"⟩
abbrev cX7_perform : ByteArray := prog_9_method_5_code
def yX7_perform : MethodName := ⟨RX7, "perform", "(LRiverReaches$Command;)I"⟩
abbrev cX7_detailOf : ByteArray := prog_9_method_6_code
def yX7_detailOf : MethodName := ⟨RX7, "detailOf", "(II)I"⟩
abbrev cX7_appendReach : ByteArray := prog_9_method_7_code
def yX7_appendReach : MethodName := ⟨RX7, "appendReach", "(III)I"⟩
abbrev cX7_cutReach : ByteArray := prog_9_method_8_code
def yX7_cutReach : MethodName := ⟨RX7, "cutReach", "()I"⟩
abbrev cX7_changeLateral : ByteArray := prog_9_method_9_code
def yX7_changeLateral : MethodName := ⟨RX7, "changeLateral", "(II)I"⟩
abbrev cX7_pourInto : ByteArray := prog_9_method_10_code
def yX7_pourInto : MethodName := ⟨RX7, "pourInto", "(II)I"⟩
abbrev cX7_changeStages : ByteArray := prog_9_method_11_code
def yX7_changeStages : MethodName := ⟨RX7, "changeStages", "(III)I"⟩
abbrev cX7_changeSetting : ByteArray := prog_9_method_12_code
def yX7_changeSetting : MethodName := ⟨RX7, "changeSetting", "(II)I"⟩
abbrev cX7_changeRule : ByteArray := prog_9_method_13_code
def yX7_changeRule : MethodName := ⟨RX7, "changeRule", "(IC)I"⟩
abbrev cX7_appendPulse : ByteArray := prog_9_method_14_code
def yX7_appendPulse : MethodName := ⟨RX7, "appendPulse", "(III)I"⟩
abbrev cX7_letPass : ByteArray := prog_9_method_15_code
def yX7_letPass : MethodName := ⟨RX7, "letPass", "(I)I"⟩
abbrev cX7_passHour : ByteArray := prog_9_method_16_code
def yX7_passHour : MethodName := ⟨RX7, "passHour", "()I"⟩
abbrev cX7_dropPassedPulses : ByteArray := prog_9_method_17_code
def yX7_dropPassedPulses : MethodName := ⟨RX7, "dropPassedPulses", "()V"⟩
abbrev cX7_inflowOf : ByteArray := prog_9_method_18_code
def yX7_inflowOf : MethodName := ⟨RX7, "inflowOf", "(I)I"⟩
abbrev cX7_outflowOf : ByteArray := prog_9_method_19_code
def yX7_outflowOf : MethodName := ⟨RX7, "outflowOf", "(I)I"⟩
abbrev cX7_openingOf : ByteArray := prog_9_method_20_code
def yX7_openingOf : MethodName := ⟨RX7, "openingOf", "(I)I"⟩
abbrev cX7_headInflowIn : ByteArray := prog_9_method_21_code
def yX7_headInflowIn : MethodName := ⟨RX7, "headInflowIn", "(I)I"⟩
abbrev cX7_comingByHours : ByteArray := prog_9_method_22_code
def yX7_comingByHours : MethodName := ⟨RX7, "comingByHours", "()I"⟩
abbrev cX7_countAhead : ByteArray := prog_9_method_24_code
def yX7_countAhead : MethodName := ⟨RX7, "countAhead", "(I)I"⟩
abbrev cX7_volumeOfAll : ByteArray := prog_9_method_25_code
def yX7_volumeOfAll : MethodName := ⟨RX7, "volumeOfAll", "()I"⟩
abbrev cX7_sumOfLevels : ByteArray := prog_9_method_26_code
def yX7_sumOfLevels : MethodName := ⟨RX7, "sumOfLevels", "()I"⟩
abbrev cX7_countFlooded : ByteArray := prog_9_method_27_code
def yX7_countFlooded : MethodName := ⟨RX7, "countFlooded", "()I"⟩
def RX8 : String := "RiverReaches$Text"
def TX8 : u_T := fun k => match k with
  | 0 => ("RiverReaches$Text", "signs", "[C", true)
  | 1 => ("RiverReaches$Text", "commands", "[LRiverReaches$Command;", true)
  | 2 => ("RiverReaches$Text", "length", "I", false)
  | 3 => ("RiverReaches$Text", "position", "I", false)
  | _ => ("RiverReaches$Text", "commandCount", "I", false)
def tyX8 : Nat → FieldType := fun k => match k with
  | 0 => .array .char
  | 1 => .array (.object "RiverReaches$Command")
  | 2 => .int
  | 3 => .int
  | _ => .int
theorem nmX8 : ∀ a, a < 5 → ∀ b, b < 5 → a ≠ b → (TX8 a).2.1 ≠ (TX8 b).2.1 := by decide +kernel
theorem tyX8_ok : ∀ k, k < 5 → parseFieldDescriptor (TX8 k).2.2.1 = some (tyX8 k) := by decide +kernel
abbrev cX8_init : ByteArray := prog_10_method_1_code
def yX8_init : MethodName := ⟨RX8, "<init>", "()V"⟩
abbrev cX8_isFull : ByteArray := prog_10_method_2_code
def yX8_isFull : MethodName := ⟨RX8, "isFull", "()Z"⟩
abbrev cX8_append : ByteArray := prog_10_method_3_code
def yX8_append : MethodName := ⟨RX8, "append", "(C)I"⟩
abbrev cX8_empty : ByteArray := prog_10_method_4_code
def yX8_empty : MethodName := ⟨RX8, "empty", "()V"⟩
abbrev cX8_commandAt : ByteArray := prog_10_method_5_code
def yX8_commandAt : MethodName := ⟨RX8, "commandAt", "(I)LRiverReaches$Command;"⟩
abbrev cX8_parse : ByteArray := prog_10_method_6_code
def yX8_parse : MethodName := ⟨RX8, "parse", "()I"⟩
abbrev cX8_takeCommand : ByteArray := prog_10_method_7_code
def yX8_takeCommand : MethodName := ⟨RX8, "takeCommand", "(LRiverReaches$Command;)Z"⟩
abbrev cX8_takeWord : ByteArray := prog_10_method_8_code
def yX8_takeWord : MethodName := ⟨RX8, "takeWord", "()LRiverReaches$Kind;"⟩
abbrev cX8_sharedLength : ByteArray := prog_10_method_9_code
def yX8_sharedLength : MethodName := ⟨RX8, "sharedLength", "(Ljava/lang/String;)I"⟩
abbrev cX8_takeParameter : ByteArray := prog_10_method_10_code
def yX8_takeParameter : MethodName := ⟨RX8, "takeParameter", "(C)I"⟩
abbrev cX8_takeLetter : ByteArray := prog_10_method_11_code
def yX8_takeLetter : MethodName := ⟨RX8, "takeLetter", "()I"⟩
abbrev cX8_takeDigits : ByteArray := prog_10_method_12_code
def yX8_takeDigits : MethodName := ⟨RX8, "takeDigits", "(I)I"⟩
abbrev cX8_takeSign : ByteArray := prog_10_method_13_code
def yX8_takeSign : MethodName := ⟨RX8, "takeSign", "(C)Z"⟩
abbrev cX8_signAt : ByteArray := prog_10_method_14_code
def yX8_signAt : MethodName := ⟨RX8, "signAt", "(I)I"⟩
def RX9 : String := "RiverReaches"
def TX9 : u_T := fun k => match k with
  | 0 => ("RiverReaches", "river", "LRiverReaches$River;", true)
  | 1 => ("RiverReaches", "forecast", "LRiverReaches$River;", true)
  | 2 => ("RiverReaches", "snapshot", "LRiverReaches$River;", true)
  | 3 => ("RiverReaches", "history", "LRiverReaches$History;", true)
  | 4 => ("RiverReaches", "text", "LRiverReaches$Text;", true)
  | 5 => ("RiverReaches", "latest", "LRiverReaches$Denial;", true)
  | 6 => ("RiverReaches", "line", "Ljava/lang/StringBuilder;", true)
  | 7 => ("RiverReaches", "hasSnapshot", "Z", false)
  | _ => ("RiverReaches", "keptFault", "I", false)
def tyX9 : Nat → FieldType := fun k => match k with
  | 0 => .object "RiverReaches$River"
  | 1 => .object "RiverReaches$River"
  | 2 => .object "RiverReaches$River"
  | 3 => .object "RiverReaches$History"
  | 4 => .object "RiverReaches$Text"
  | 5 => .object "RiverReaches$Denial"
  | 6 => .object "java/lang/StringBuilder"
  | 7 => .boolean
  | _ => .int
theorem nmX9 : ∀ a, a < 9 → ∀ b, b < 9 → a ≠ b → (TX9 a).2.1 ≠ (TX9 b).2.1 := by decide +kernel
theorem tyX9_ok : ∀ k, k < 9 → parseFieldDescriptor (TX9 k).2.2.1 = some (tyX9 k) := by decide +kernel
abbrev cX9_init : ByteArray := prog_1_method_1_code
def yX9_init : MethodName := ⟨RX9, "<init>", "()V"⟩
abbrev cX9_addReach : ByteArray := prog_1_method_2_code
def yX9_addReach : MethodName := ⟨RX9, "addReach", "(III)I"⟩
abbrev cX9_removeLastReach : ByteArray := prog_1_method_3_code
def yX9_removeLastReach : MethodName := ⟨RX9, "removeLastReach", "()I"⟩
abbrev cX9_setLateral : ByteArray := prog_1_method_4_code
def yX9_setLateral : MethodName := ⟨RX9, "setLateral", "(II)I"⟩
abbrev cX9_fill : ByteArray := prog_1_method_5_code
def yX9_fill : MethodName := ⟨RX9, "fill", "(II)I"⟩
abbrev cX9_reachCount : ByteArray := prog_1_method_6_code
def yX9_reachCount : MethodName := ⟨RX9, "reachCount", "()I"⟩
abbrev cX9_volume : ByteArray := prog_1_method_7_code
def yX9_volume : MethodName := ⟨RX9, "volume", "(I)I"⟩
abbrev cX9_lateral : ByteArray := prog_1_method_8_code
def yX9_lateral : MethodName := ⟨RX9, "lateral", "(I)I"⟩
abbrev cX9_inflow : ByteArray := prog_1_method_9_code
def yX9_inflow : MethodName := ⟨RX9, "inflow", "(I)I"⟩
abbrev cX9_outflow : ByteArray := prog_1_method_10_code
def yX9_outflow : MethodName := ⟨RX9, "outflow", "(I)I"⟩
abbrev cX9_setStages : ByteArray := prog_1_method_11_code
def yX9_setStages : MethodName := ⟨RX9, "setStages", "(III)I"⟩
abbrev cX9_setGate : ByteArray := prog_1_method_12_code
def yX9_setGate : MethodName := ⟨RX9, "setGate", "(II)I"⟩
abbrev cX9_setRule : ByteArray := prog_1_method_13_code
def yX9_setRule : MethodName := ⟨RX9, "setRule", "(IC)I"⟩
abbrev cX9_level : ByteArray := prog_1_method_14_code
def yX9_level : MethodName := ⟨RX9, "level", "(I)I"⟩
abbrev cX9_status : ByteArray := prog_1_method_15_code
def yX9_status : MethodName := ⟨RX9, "status", "(I)I"⟩
abbrev cX9_isFlooded : ByteArray := prog_1_method_16_code
def yX9_isFlooded : MethodName := ⟨RX9, "isFlooded", "(I)Z"⟩
abbrev cX9_opening : ByteArray := prog_1_method_17_code
def yX9_opening : MethodName := ⟨RX9, "opening", "(I)I"⟩
abbrev cX9_rule : ByteArray := prog_1_method_18_code
def yX9_rule : MethodName := ⟨RX9, "rule", "(I)C"⟩
abbrev cX9_roomBelowFlood : ByteArray := prog_1_method_19_code
def yX9_roomBelowFlood : MethodName := ⟨RX9, "roomBelowFlood", "(I)I"⟩
abbrev cX9_reachByLevel : ByteArray := prog_1_method_20_code
def yX9_reachByLevel : MethodName := ⟨RX9, "reachByLevel", "(I)I"⟩
abbrev cX9_addPulse : ByteArray := prog_1_method_21_code
def yX9_addPulse : MethodName := ⟨RX9, "addPulse", "(III)I"⟩
abbrev cX9_pass : ByteArray := prog_1_method_22_code
def yX9_pass : MethodName := ⟨RX9, "pass", "(I)I"⟩
abbrev cX9_hour : ByteArray := prog_1_method_23_code
def yX9_hour : MethodName := ⟨RX9, "hour", "()I"⟩
abbrev cX9_pulseCount : ByteArray := prog_1_method_24_code
def yX9_pulseCount : MethodName := ⟨RX9, "pulseCount", "()I"⟩
abbrev cX9_headInflow : ByteArray := prog_1_method_25_code
def yX9_headInflow : MethodName := ⟨RX9, "headInflow", "(I)I"⟩
abbrev cX9_pendingInflow : ByteArray := prog_1_method_26_code
def yX9_pendingInflow : MethodName := ⟨RX9, "pendingInflow", "()I"⟩
abbrev cX9_levelAfter : ByteArray := prog_1_method_28_code
def yX9_levelAfter : MethodName := ⟨RX9, "levelAfter", "(II)I"⟩
abbrev cX9_peakLevel : ByteArray := prog_1_method_29_code
def yX9_peakLevel : MethodName := ⟨RX9, "peakLevel", "(II)I"⟩
abbrev cX9_hoursUntilFlood : ByteArray := prog_1_method_30_code
def yX9_hoursUntilFlood : MethodName := ⟨RX9, "hoursUntilFlood", "(I)I"⟩
abbrev cX9_volumeAfter : ByteArray := prog_1_method_31_code
def yX9_volumeAfter : MethodName := ⟨RX9, "volumeAfter", "(I)I"⟩
abbrev cX9_volumeAfterByBalance : ByteArray := prog_1_method_32_code
def yX9_volumeAfterByBalance : MethodName := ⟨RX9, "volumeAfterByBalance", "(I)I"⟩
abbrev cX9_totalIn : ByteArray := prog_1_method_34_code
def yX9_totalIn : MethodName := ⟨RX9, "totalIn", "()I"⟩
abbrev cX9_totalOut : ByteArray := prog_1_method_35_code
def yX9_totalOut : MethodName := ⟨RX9, "totalOut", "()I"⟩
abbrev cX9_alarms : ByteArray := prog_1_method_36_code
def yX9_alarms : MethodName := ⟨RX9, "alarms", "()I"⟩
abbrev cX9_meanLevel : ByteArray := prog_1_method_37_code
def yX9_meanLevel : MethodName := ⟨RX9, "meanLevel", "()D"⟩
abbrev cX9_floodedShare : ByteArray := prog_1_method_38_code
def yX9_floodedShare : MethodName := ⟨RX9, "floodedShare", "()F"⟩
abbrev cX9_feed : ByteArray := prog_1_method_39_code
def yX9_feed : MethodName := ⟨RX9, "feed", "(C)I"⟩
abbrev cX9_execute : ByteArray := prog_1_method_40_code
def yX9_execute : MethodName := ⟨RX9, "execute", "()I"⟩
abbrev cX9_faultPosition : ByteArray := prog_1_method_41_code
def yX9_faultPosition : MethodName := ⟨RX9, "faultPosition", "()I"⟩
abbrev cX9_writeReach : ByteArray := prog_1_method_42_code
def yX9_writeReach : MethodName := ⟨RX9, "writeReach", "(I)I"⟩
abbrev cX9_lineCharacter : ByteArray := prog_1_method_44_code
def yX9_lineCharacter : MethodName := ⟨RX9, "lineCharacter", "(I)C"⟩
abbrev cX9_denial : ByteArray := prog_1_method_45_code
def yX9_denial : MethodName := ⟨RX9, "denial", "()I"⟩
abbrev cX9_denialDetail : ByteArray := prog_1_method_46_code
def yX9_denialDetail : MethodName := ⟨RX9, "denialDetail", "()I"⟩
abbrev cX9_denialCause : ByteArray := prog_1_method_47_code
def yX9_denialCause : MethodName := ⟨RX9, "denialCause", "()I"⟩
abbrev cX9_denialCauseDetail : ByteArray := prog_1_method_48_code
def yX9_denialCauseDetail : MethodName := ⟨RX9, "denialCauseDetail", "()I"⟩
abbrev cX9_undo : ByteArray := prog_1_method_49_code
def yX9_undo : MethodName := ⟨RX9, "undo", "()I"⟩
abbrev cX9_undoCount : ByteArray := prog_1_method_50_code
def yX9_undoCount : MethodName := ⟨RX9, "undoCount", "()I"⟩
abbrev cX9_saveSnapshot : ByteArray := prog_1_method_51_code
def yX9_saveSnapshot : MethodName := ⟨RX9, "saveSnapshot", "()I"⟩
abbrev cX9_restoreSnapshot : ByteArray := prog_1_method_52_code
def yX9_restoreSnapshot : MethodName := ⟨RX9, "restoreSnapshot", "()I"⟩
abbrev cX9_conclude : ByteArray := prog_1_method_53_code
def yX9_conclude : MethodName := ⟨RX9, "conclude", "(II)I"⟩
abbrev cX9_failCommand : ByteArray := prog_1_method_54_code
def yX9_failCommand : MethodName := ⟨RX9, "failCommand", "(ILRiverReaches$Command;I)V"⟩
abbrev cX9_ahead : ByteArray := prog_1_method_55_code
def yX9_ahead : MethodName := ⟨RX9, "ahead", "(I)LRiverReaches$River;"⟩
abbrev cX9_requireReach : ByteArray := prog_1_method_56_code
def yX9_requireReach : MethodName := ⟨RX9, "requireReach", "(I)V"⟩
abbrev cX9_requireForecastHours : ByteArray := prog_1_method_57_code
def yX9_requireForecastHours : MethodName := ⟨RX9, "requireForecastHours", "(I)V"⟩
abbrev cX9_requireDenial : ByteArray := prog_1_method_58_code
def yX9_requireDenial : MethodName := ⟨RX9, "requireDenial", "(I)V"⟩
abbrev cX9_within : ByteArray := prog_1_method_59_code
def yX9_within : MethodName := ⟨RX9, "within", "(III)Z"⟩
abbrev cX9_isRule : ByteArray := prog_1_method_60_code
def yX9_isRule : MethodName := ⟨RX9, "isRule", "(I)Z"⟩
def RX10 : String := "RiverReachesModel"
def TX10 : u_T := fun k => match k with
  | _ => ("", "", "", false)
def tyX10 : Nat → FieldType := fun k => match k with
  | _ => .int
theorem nmX10 : ∀ a, a < 0 → ∀ b, b < 0 → a ≠ b → (TX10 a).2.1 ≠ (TX10 b).2.1 := by decide +kernel
theorem tyX10_ok : ∀ k, k < 0 → parseFieldDescriptor (TX10 k).2.2.1 = some (tyX10 k) := by decide +kernel
def RJx145de : String := "java/io/Serializable"
def TJx145de : u_T := fun k => match k with
  | _ => ("", "", "", false)
def tyJx145de : Nat → FieldType := fun k => match k with
  | _ => .int
theorem nmJx145de : ∀ a, a < 0 → ∀ b, b < 0 → a ≠ b → (TJx145de a).2.1 ≠ (TJx145de b).2.1 := by decide +kernel
theorem tyJx145de_ok : ∀ k, k < 0 → parseFieldDescriptor (TJx145de k).2.2.1 = some (tyJx145de k) := by decide +kernel
def RJ5 : String := "java/lang/AbstractStringBuilder"
def TJ5 : u_T := fun k => match k with
  | _ => ("", "", "", false)
def tyJ5 : Nat → FieldType := fun k => match k with
  | _ => .int
theorem nmJ5 : ∀ a, a < 0 → ∀ b, b < 0 → a ≠ b → (TJ5 a).2.1 ≠ (TJ5 b).2.1 := by decide +kernel
theorem tyJ5_ok : ∀ k, k < 0 → parseFieldDescriptor (TJ5 k).2.2.1 = some (tyJ5 k) := by decide +kernel
abbrev cJ5_init_d00df : ByteArray := prog_14_method_2_code
def yJ5_init_d00df : MethodName := ⟨RJ5, "<init>", "(I)V"⟩
abbrev cJ5_length_8abf5 : ByteArray := prog_14_method_6_code
def yJ5_length_8abf5 : MethodName := ⟨RJ5, "length", "()I"⟩
abbrev cJ5_ensureCapacityInternal_d00df : ByteArray := prog_14_method_9_code
def yJ5_ensureCapacityInternal_d00df : MethodName := ⟨RJ5, "ensureCapacityInternal", "(I)V"⟩
abbrev cJ5_newCapacity_0f7a4 : ByteArray := prog_14_method_10_code
def yJ5_newCapacity_0f7a4 : MethodName := ⟨RJ5, "newCapacity", "(I)I"⟩
abbrev cJ5_inflate_da8c8 : ByteArray := prog_14_method_11_code
def yJ5_inflate_da8c8 : MethodName := ⟨RJ5, "inflate", "()V"⟩
abbrev cJ5_setLength_d00df : ByteArray := prog_14_method_13_code
def yJ5_setLength_d00df : MethodName := ⟨RJ5, "setLength", "(I)V"⟩
abbrev cJ5_charAt_5068e : ByteArray := prog_14_method_14_code
def yJ5_charAt_5068e : MethodName := ⟨RJ5, "charAt", "(I)C"⟩
abbrev cJ5_append_cf1ce : ByteArray := prog_14_method_22_code
def yJ5_append_cf1ce : MethodName := ⟨RJ5, "append", "(Ljava/lang/String;)Ljava/lang/AbstractStringBuilder;"⟩
abbrev cJ5_appendNull_278bc : ByteArray := prog_14_method_26_code
def yJ5_appendNull_278bc : MethodName := ⟨RJ5, "appendNull", "()Ljava/lang/AbstractStringBuilder;"⟩
abbrev cJ5_append_3fe6f : ByteArray := prog_14_method_31_code
def yJ5_append_3fe6f : MethodName := ⟨RJ5, "append", "(C)Ljava/lang/AbstractStringBuilder;"⟩
abbrev cJ5_append_c97b9 : ByteArray := prog_14_method_32_code
def yJ5_append_c97b9 : MethodName := ⟨RJ5, "append", "(I)Ljava/lang/AbstractStringBuilder;"⟩
abbrev cJ5_getValue_6d5f1 : ByteArray := prog_14_method_64_code
def yJ5_getValue_6d5f1 : MethodName := ⟨RJ5, "getValue", "()[B"⟩
abbrev cJ5_isLatin1_aae02 : ByteArray := prog_14_method_68_code
def yJ5_isLatin1_aae02 : MethodName := ⟨RJ5, "isLatin1", "()Z"⟩
abbrev cJ5_inflateIfNeededFor_a7421 : ByteArray := prog_14_method_71_code
def yJ5_inflateIfNeededFor_a7421 : MethodName := ⟨RJ5, "inflateIfNeededFor", "(Ljava/lang/String;)V"⟩
abbrev cJ5_putStringAt_47b60 : ByteArray := prog_14_method_73_code
def yJ5_putStringAt_47b60 : MethodName := ⟨RJ5, "putStringAt", "(ILjava/lang/String;)V"⟩
def RJx2cfe8 : String := "java/lang/Appendable"
def TJx2cfe8 : u_T := fun k => match k with
  | _ => ("", "", "", false)
def tyJx2cfe8 : Nat → FieldType := fun k => match k with
  | _ => .int
theorem nmJx2cfe8 : ∀ a, a < 0 → ∀ b, b < 0 → a ≠ b → (TJx2cfe8 a).2.1 ≠ (TJx2cfe8 b).2.1 := by decide +kernel
theorem tyJx2cfe8_ok : ∀ k, k < 0 → parseFieldDescriptor (TJx2cfe8 k).2.2.1 = some (tyJx2cfe8 k) := by decide +kernel
def RJx00060 : String := "java/lang/ArrayIndexOutOfBoundsException"
def TJx00060 : u_T := fun k => match k with
  | 0 => ("java/lang/Throwable", "backtrace", "Ljava/lang/Object;", false)
  | 1 => ("java/lang/Throwable", "detailMessage", "Ljava/lang/String;", false)
  | 2 => ("java/lang/Throwable", "cause", "Ljava/lang/Throwable;", false)
  | 3 => ("java/lang/Throwable", "stackTrace", "[Ljava/lang/StackTraceElement;", false)
  | 4 => ("java/lang/Throwable", "depth", "I", false)
  | _ => ("java/lang/Throwable", "suppressedExceptions", "Ljava/util/List;", false)
def tyJx00060 : Nat → FieldType := fun k => match k with
  | 0 => .object "java/lang/Object"
  | 1 => .object "java/lang/String"
  | 2 => .object "java/lang/Throwable"
  | 3 => .array (.object "java/lang/StackTraceElement")
  | 4 => .int
  | _ => .object "java/util/List"
theorem nmJx00060 : ∀ a, a < 6 → ∀ b, b < 6 → a ≠ b → (TJx00060 a).2.1 ≠ (TJx00060 b).2.1 := by decide +kernel
theorem tyJx00060_ok : ∀ k, k < 6 → parseFieldDescriptor (TJx00060 k).2.2.1 = some (tyJx00060 k) := by decide +kernel
abbrev cJx00060_init_a7421 : ByteArray := prog_17_method_2_code
def yJx00060_init_a7421 : MethodName := ⟨RJx00060, "<init>", "(Ljava/lang/String;)V"⟩
abbrev cJx00060_init_d00df : ByteArray := prog_17_method_3_code
def yJx00060_init_d00df : MethodName := ⟨RJx00060, "<init>", "(I)V"⟩
def RJx9f9b0 : String := "java/lang/CharSequence"
def TJx9f9b0 : u_T := fun k => match k with
  | _ => ("", "", "", false)
def tyJx9f9b0 : Nat → FieldType := fun k => match k with
  | _ => .int
theorem nmJx9f9b0 : ∀ a, a < 0 → ∀ b, b < 0 → a ≠ b → (TJx9f9b0 a).2.1 ≠ (TJx9f9b0 b).2.1 := by decide +kernel
theorem tyJx9f9b0_ok : ∀ k, k < 0 → parseFieldDescriptor (TJx9f9b0 k).2.2.1 = some (tyJx9f9b0 k) := by decide +kernel
def RJx8e188 : String := "java/lang/Cloneable"
def TJx8e188 : u_T := fun k => match k with
  | _ => ("", "", "", false)
def tyJx8e188 : Nat → FieldType := fun k => match k with
  | _ => .int
theorem nmJx8e188 : ∀ a, a < 0 → ∀ b, b < 0 → a ≠ b → (TJx8e188 a).2.1 ≠ (TJx8e188 b).2.1 := by decide +kernel
theorem tyJx8e188_ok : ∀ k, k < 0 → parseFieldDescriptor (TJx8e188 k).2.2.1 = some (tyJx8e188 k) := by decide +kernel
def RJxb160c : String := "java/lang/Comparable"
def TJxb160c : u_T := fun k => match k with
  | _ => ("", "", "", false)
def tyJxb160c : Nat → FieldType := fun k => match k with
  | _ => .int
theorem nmJxb160c : ∀ a, a < 0 → ∀ b, b < 0 → a ≠ b → (TJxb160c a).2.1 ≠ (TJxb160c b).2.1 := by decide +kernel
theorem tyJxb160c_ok : ∀ k, k < 0 → parseFieldDescriptor (TJxb160c k).2.2.1 = some (tyJxb160c k) := by decide +kernel
def RJxe99ae : String := "java/lang/Double"
def TJxe99ae : u_T := fun k => match k with
  | _ => ("", "", "", false)
def tyJxe99ae : Nat → FieldType := fun k => match k with
  | _ => .int
theorem nmJxe99ae : ∀ a, a < 0 → ∀ b, b < 0 → a ≠ b → (TJxe99ae a).2.1 ≠ (TJxe99ae b).2.1 := by decide +kernel
theorem tyJxe99ae_ok : ∀ k, k < 0 → parseFieldDescriptor (TJxe99ae k).2.2.1 = some (tyJxe99ae k) := by decide +kernel
abbrev cJxe99ae_isNaN_b9ae7 : ByteArray := prog_21_method_6_code
def yJxe99ae_isNaN_b9ae7 : MethodName := ⟨RJxe99ae, "isNaN", "(D)Z"⟩
abbrev cJxe99ae_doubleToLongBits_ccdee : ByteArray := prog_21_method_23_code
def yJxe99ae_doubleToLongBits_ccdee : MethodName := ⟨RJxe99ae, "doubleToLongBits", "(D)J"⟩
def RJx29ce0 : String := "java/lang/Enum"
def TJx29ce0 : u_T := fun k => match k with
  | _ => ("", "", "", false)
def tyJx29ce0 : Nat → FieldType := fun k => match k with
  | _ => .int
theorem nmJx29ce0 : ∀ a, a < 0 → ∀ b, b < 0 → a ≠ b → (TJx29ce0 a).2.1 ≠ (TJx29ce0 b).2.1 := by decide +kernel
theorem tyJx29ce0_ok : ∀ k, k < 0 → parseFieldDescriptor (TJx29ce0 k).2.2.1 = some (tyJx29ce0 k) := by decide +kernel
abbrev cJx29ce0_ordinal_8abf5 : ByteArray := prog_22_method_2_code
def yJx29ce0_ordinal_8abf5 : MethodName := ⟨RJx29ce0, "ordinal", "()I"⟩
def RJxf58ca : String := "java/lang/Float"
def TJxf58ca : u_T := fun k => match k with
  | _ => ("", "", "", false)
def tyJxf58ca : Nat → FieldType := fun k => match k with
  | _ => .int
theorem nmJxf58ca : ∀ a, a < 0 → ∀ b, b < 0 → a ≠ b → (TJxf58ca a).2.1 ≠ (TJxf58ca b).2.1 := by decide +kernel
theorem tyJxf58ca_ok : ∀ k, k < 0 → parseFieldDescriptor (TJxf58ca k).2.2.1 = some (tyJxf58ca k) := by decide +kernel
abbrev cJxf58ca_isNaN_12338 : ByteArray := prog_24_method_6_code
def yJxf58ca_isNaN_12338 : MethodName := ⟨RJxf58ca, "isNaN", "(F)Z"⟩
abbrev cJxf58ca_floatToIntBits_5c35a : ByteArray := prog_24_method_24_code
def yJxf58ca_floatToIntBits_5c35a : MethodName := ⟨RJxf58ca, "floatToIntBits", "(F)I"⟩
def RJ6 : String := "java/lang/Integer"
def TJ6 : u_T := fun k => match k with
  | _ => ("", "", "", false)
def tyJ6 : Nat → FieldType := fun k => match k with
  | _ => .int
theorem nmJ6 : ∀ a, a < 0 → ∀ b, b < 0 → a ≠ b → (TJ6 a).2.1 ≠ (TJ6 b).2.1 := by decide +kernel
theorem tyJ6_ok : ∀ k, k < 0 → parseFieldDescriptor (TJ6 k).2.2.1 = some (tyJ6 k) := by decide +kernel
abbrev cJ6_getChars_ba4f3 : ByteArray := prog_28_method_12_code
def yJ6_getChars_ba4f3 : MethodName := ⟨RJ6, "getChars", "(II[B)I"⟩
abbrev cJ6_stringSize_0f7a4 : ByteArray := prog_28_method_13_code
def yJ6_stringSize_0f7a4 : MethodName := ⟨RJ6, "stringSize", "(I)I"⟩
def RJ9 : String := "java/lang/Math"
def TJ9 : u_T := fun k => match k with
  | _ => ("", "", "", false)
def tyJ9 : Nat → FieldType := fun k => match k with
  | _ => .int
theorem nmJ9 : ∀ a, a < 0 → ∀ b, b < 0 → a ≠ b → (TJ9 a).2.1 ≠ (TJ9 b).2.1 := by decide +kernel
theorem tyJ9_ok : ∀ k, k < 0 → parseFieldDescriptor (TJ9 k).2.2.1 = some (tyJ9 k) := by decide +kernel
abbrev cJ9_max_7cf53 : ByteArray := prog_29_method_65_code
def yJ9_max_7cf53 : MethodName := ⟨RJ9, "max", "(II)I"⟩
abbrev cJ9_min_7cf53 : ByteArray := prog_29_method_69_code
def yJ9_min_7cf53 : MethodName := ⟨RJ9, "min", "(II)I"⟩
def RJxd2413 : String := "java/lang/Number"
def TJxd2413 : u_T := fun k => match k with
  | _ => ("", "", "", false)
def tyJxd2413 : Nat → FieldType := fun k => match k with
  | _ => .int
theorem nmJxd2413 : ∀ a, a < 0 → ∀ b, b < 0 → a ≠ b → (TJxd2413 a).2.1 ≠ (TJxd2413 b).2.1 := by decide +kernel
theorem tyJxd2413_ok : ∀ k, k < 0 → parseFieldDescriptor (TJxd2413 k).2.2.1 = some (tyJxd2413 k) := by decide +kernel
def RJ0 : String := "java/lang/String"
def TJ0 : u_T := fun k => match k with
  | 0 => ("java/lang/String", "value", "[B", true)
  | 1 => ("java/lang/String", "coder", "B", true)
  | 2 => ("java/lang/String", "hash", "I", false)
  | _ => ("java/lang/String", "hashIsZero", "Z", false)
def tyJ0 : Nat → FieldType := fun k => match k with
  | 0 => .array .byte
  | 1 => .byte
  | 2 => .int
  | _ => .boolean
theorem nmJ0 : ∀ a, a < 4 → ∀ b, b < 4 → a ≠ b → (TJ0 a).2.1 ≠ (TJ0 b).2.1 := by decide +kernel
theorem tyJ0_ok : ∀ k, k < 4 → parseFieldDescriptor (TJ0 k).2.2.1 = some (tyJ0 k) := by decide +kernel
abbrev cJ0_init_81219 : ByteArray := prog_32_method_53_code
def yJ0_init_81219 : MethodName := ⟨RJ0, "<init>", "(Ljava/lang/StringBuilder;)V"⟩
abbrev cJ0_length_8abf5 : ByteArray := prog_32_method_54_code
def yJ0_length_8abf5 : MethodName := ⟨RJ0, "length", "()I"⟩
abbrev cJ0_charAt_5068e : ByteArray := prog_32_method_56_code
def yJ0_charAt_5068e : MethodName := ⟨RJ0, "charAt", "(I)C"⟩
abbrev cJ0_getBytes_840e7 : ByteArray := prog_32_method_147_code
def yJ0_getBytes_840e7 : MethodName := ⟨RJ0, "getBytes", "([BIB)V"⟩
abbrev cJ0_init_db425 : ByteArray := prog_32_method_150_code
def yJ0_init_db425 : MethodName := ⟨RJ0, "<init>", "(Ljava/lang/AbstractStringBuilder;Ljava/lang/Void;)V"⟩
abbrev cJ0_coder_7d493 : ByteArray := prog_32_method_152_code
def yJ0_coder_7d493 : MethodName := ⟨RJ0, "coder", "()B"⟩
abbrev cJ0_isLatin1_aae02 : ByteArray := prog_32_method_154_code
def yJ0_isLatin1_aae02 : MethodName := ⟨RJ0, "isLatin1", "()Z"⟩
abbrev cJ0_checkIndex_df160 : ByteArray := prog_32_method_155_code
def yJ0_checkIndex_df160 : MethodName := ⟨RJ0, "checkIndex", "(II)V"⟩
abbrev cJ0_checkBoundsOffCount_cabcc : ByteArray := prog_32_method_157_code
def yJ0_checkBoundsOffCount_cabcc : MethodName := ⟨RJ0, "checkBoundsOffCount", "(III)I"⟩
abbrev cJ0_checkBoundsBeginEnd_23922 : ByteArray := prog_32_method_158_code
def yJ0_checkBoundsBeginEnd_23922 : MethodName := ⟨RJ0, "checkBoundsBeginEnd", "(III)V"⟩
def RJ4 : String := "java/lang/StringBuilder"
def TJ4 : u_T := fun k => match k with
  | 0 => ("java/lang/AbstractStringBuilder", "value", "[B", false)
  | 1 => ("java/lang/AbstractStringBuilder", "coder", "B", false)
  | 2 => ("java/lang/AbstractStringBuilder", "maybeLatin1", "Z", false)
  | _ => ("java/lang/AbstractStringBuilder", "count", "I", false)
def tyJ4 : Nat → FieldType := fun k => match k with
  | 0 => .array .byte
  | 1 => .byte
  | 2 => .boolean
  | _ => .int
theorem nmJ4 : ∀ a, a < 4 → ∀ b, b < 4 → a ≠ b → (TJ4 a).2.1 ≠ (TJ4 b).2.1 := by decide +kernel
theorem tyJ4_ok : ∀ k, k < 4 → parseFieldDescriptor (TJ4 k).2.2.1 = some (tyJ4 k) := by decide +kernel
abbrev cJ4_init_da8c8 : ByteArray := prog_33_method_1_code
def yJ4_init_da8c8 : MethodName := ⟨RJ4, "<init>", "()V"⟩
abbrev cJ4_append_15ec4 : ByteArray := prog_33_method_7_code
def yJ4_append_15ec4 : MethodName := ⟨RJ4, "append", "(Ljava/lang/String;)Ljava/lang/StringBuilder;"⟩
abbrev cJ4_append_cf468 : ByteArray := prog_33_method_14_code
def yJ4_append_cf468 : MethodName := ⟨RJ4, "append", "(C)Ljava/lang/StringBuilder;"⟩
abbrev cJ4_append_bf812 : ByteArray := prog_33_method_15_code
def yJ4_append_bf812 : MethodName := ⟨RJ4, "append", "(I)Ljava/lang/StringBuilder;"⟩
abbrev cJ4_toString_0e30d : ByteArray := prog_33_method_42_code
def yJ4_toString_0e30d : MethodName := ⟨RJ4, "toString", "()Ljava/lang/String;"⟩
abbrev cJ4_charAt_5068e : ByteArray := prog_33_method_88_code
def yJ4_charAt_5068e : MethodName := ⟨RJ4, "charAt", "(I)C"⟩
abbrev cJ4_setLength_d00df : ByteArray := prog_33_method_89_code
def yJ4_setLength_d00df : MethodName := ⟨RJ4, "setLength", "(I)V"⟩
abbrev cJ4_length_8abf5 : ByteArray := prog_33_method_93_code
def yJ4_length_8abf5 : MethodName := ⟨RJ4, "length", "()I"⟩
def RJx7c733 : String := "java/lang/StringIndexOutOfBoundsException"
def TJx7c733 : u_T := fun k => match k with
  | 0 => ("java/lang/Throwable", "backtrace", "Ljava/lang/Object;", false)
  | 1 => ("java/lang/Throwable", "detailMessage", "Ljava/lang/String;", false)
  | 2 => ("java/lang/Throwable", "cause", "Ljava/lang/Throwable;", false)
  | 3 => ("java/lang/Throwable", "stackTrace", "[Ljava/lang/StackTraceElement;", false)
  | 4 => ("java/lang/Throwable", "depth", "I", false)
  | _ => ("java/lang/Throwable", "suppressedExceptions", "Ljava/util/List;", false)
def tyJx7c733 : Nat → FieldType := fun k => match k with
  | 0 => .object "java/lang/Object"
  | 1 => .object "java/lang/String"
  | 2 => .object "java/lang/Throwable"
  | 3 => .array (.object "java/lang/StackTraceElement")
  | 4 => .int
  | _ => .object "java/util/List"
theorem nmJx7c733 : ∀ a, a < 6 → ∀ b, b < 6 → a ≠ b → (TJx7c733 a).2.1 ≠ (TJx7c733 b).2.1 := by decide +kernel
theorem tyJx7c733_ok : ∀ k, k < 6 → parseFieldDescriptor (TJx7c733 k).2.2.1 = some (tyJx7c733 k) := by decide +kernel
abbrev cJx7c733_init_d00df : ByteArray := prog_34_method_3_code
def yJx7c733_init_d00df : MethodName := ⟨RJx7c733, "<init>", "(I)V"⟩
def RJ1 : String := "java/lang/StringLatin1"
def TJ1 : u_T := fun k => match k with
  | _ => ("", "", "", false)
def tyJ1 : Nat → FieldType := fun k => match k with
  | _ => .int
theorem nmJ1 : ∀ a, a < 0 → ∀ b, b < 0 → a ≠ b → (TJ1 a).2.1 ≠ (TJ1 b).2.1 := by decide +kernel
theorem tyJ1_ok : ∀ k, k < 0 → parseFieldDescriptor (TJ1 k).2.2.1 = some (tyJ1 k) := by decide +kernel
abbrev cJ1_charAt_3b067 : ByteArray := prog_35_method_2_code
def yJ1_charAt_3b067 : MethodName := ⟨RJ1, "charAt", "([BI)C"⟩
abbrev cJ1_canEncode_fc78d : ByteArray := prog_35_method_3_code
def yJ1_canEncode_fc78d : MethodName := ⟨RJ1, "canEncode", "(C)Z"⟩
abbrev cJ1_fillNull_b72d1 : ByteArray := prog_35_method_48_code
def yJ1_fillNull_b72d1 : MethodName := ⟨RJ1, "fillNull", "([BII)V"⟩
abbrev cJ1_inflate_0e8fd : ByteArray := prog_35_method_50_code
def yJ1_inflate_0e8fd : MethodName := ⟨RJ1, "inflate", "([BI[BII)V"⟩
def RJ2 : String := "java/lang/StringUTF16"
def TJ2 : u_T := fun k => match k with
  | _ => ("", "", "", false)
def tyJ2 : Nat → FieldType := fun k => match k with
  | _ => .int
theorem nmJ2 : ∀ a, a < 0 → ∀ b, b < 0 → a ≠ b → (TJ2 a).2.1 ≠ (TJ2 b).2.1 := by decide +kernel
theorem tyJ2_ok : ∀ k, k < 0 → parseFieldDescriptor (TJ2 k).2.2.1 = some (tyJ2 k) := by decide +kernel
abbrev cJ2_newBytesFor_77867 : ByteArray := prog_36_method_2_code
def yJ2_newBytesFor_77867 : MethodName := ⟨RJ2, "newBytesFor", "(I)[B"⟩
abbrev cJ2_newBytesLength_0f7a4 : ByteArray := prog_36_method_3_code
def yJ2_newBytesLength_0f7a4 : MethodName := ⟨RJ2, "newBytesLength", "(I)I"⟩
abbrev cJ2_putChar_b72d1 : ByteArray := prog_36_method_4_code
def yJ2_putChar_b72d1 : MethodName := ⟨RJ2, "putChar", "([BII)V"⟩
abbrev cJ2_getChar_3b067 : ByteArray := prog_36_method_5_code
def yJ2_getChar_3b067 : MethodName := ⟨RJ2, "getChar", "([BI)C"⟩
abbrev cJ2_length_9d52b : ByteArray := prog_36_method_6_code
def yJ2_length_9d52b : MethodName := ⟨RJ2, "length", "([B)I"⟩
abbrev cJ2_coderFromArrayLen_85cad : ByteArray := prog_36_method_15_code
def yJ2_coderFromArrayLen_85cad : MethodName := ⟨RJ2, "coderFromArrayLen", "([BI)B"⟩
abbrev cJ2_compress_39247 : ByteArray := prog_36_method_17_code
def yJ2_compress_39247 : MethodName := ⟨RJ2, "compress", "([BII)[B"⟩
abbrev cJ2_compress_5af95 : ByteArray := prog_36_method_22_code
def yJ2_compress_5af95 : MethodName := ⟨RJ2, "compress", "([BI[BII)I"⟩
abbrev cJ2_fillNull_b72d1 : ByteArray := prog_36_method_70_code
def yJ2_fillNull_b72d1 : MethodName := ⟨RJ2, "fillNull", "([BII)V"⟩
abbrev cJ2_putCharSB_b72d1 : ByteArray := prog_36_method_71_code
def yJ2_putCharSB_b72d1 : MethodName := ⟨RJ2, "putCharSB", "([BII)V"⟩
abbrev cJ2_getChars_46870 : ByteArray := prog_36_method_77_code
def yJ2_getChars_46870 : MethodName := ⟨RJ2, "getChars", "(III[B)I"⟩
abbrev cJ2_putCharsAt_cd4e5 : ByteArray := prog_36_method_81_code
def yJ2_putCharsAt_cd4e5 : MethodName := ⟨RJ2, "putCharsAt", "([BICCCC)I"⟩
abbrev cJ2_charAt_3b067 : ByteArray := prog_36_method_83_code
def yJ2_charAt_3b067 : MethodName := ⟨RJ2, "charAt", "([BI)C"⟩
abbrev cJ2_inflate_0e8fd : ByteArray := prog_36_method_86_code
def yJ2_inflate_0e8fd : MethodName := ⟨RJ2, "inflate", "([BI[BII)V"⟩
abbrev cJ2_getChars_ba4f3 : ByteArray := prog_36_method_89_code
def yJ2_getChars_ba4f3 : MethodName := ⟨RJ2, "getChars", "(II[B)I"⟩
abbrev cJ2_checkIndex_2214a : ByteArray := prog_36_method_91_code
def yJ2_checkIndex_2214a : MethodName := ⟨RJ2, "checkIndex", "(I[B)V"⟩
abbrev cJ2_checkBoundsBeginEnd_d044e : ByteArray := prog_36_method_93_code
def yJ2_checkBoundsBeginEnd_d044e : MethodName := ⟨RJ2, "checkBoundsBeginEnd", "(II[B)V"⟩
abbrev cJ2_checkBoundsOffCount_d044e : ByteArray := prog_36_method_94_code
def yJ2_checkBoundsOffCount_d044e : MethodName := ⟨RJ2, "checkBoundsOffCount", "(II[B)V"⟩
def RJ10 : String := "java/lang/System"
def TJ10 : u_T := fun k => match k with
  | _ => ("", "", "", false)
def tyJ10 : Nat → FieldType := fun k => match k with
  | _ => .int
theorem nmJ10 : ∀ a, a < 0 → ∀ b, b < 0 → a ≠ b → (TJ10 a).2.1 ≠ (TJ10 b).2.1 := by decide +kernel
theorem tyJ10_ok : ∀ k, k < 0 → parseFieldDescriptor (TJ10 k).2.2.1 = some (tyJ10 k) := by decide +kernel
def RJxfd54e : String := "java/lang/constant/Constable"
def TJxfd54e : u_T := fun k => match k with
  | _ => ("", "", "", false)
def tyJxfd54e : Nat → FieldType := fun k => match k with
  | _ => .int
theorem nmJxfd54e : ∀ a, a < 0 → ∀ b, b < 0 → a ≠ b → (TJxfd54e a).2.1 ≠ (TJxfd54e b).2.1 := by decide +kernel
theorem tyJxfd54e_ok : ∀ k, k < 0 → parseFieldDescriptor (TJxfd54e k).2.2.1 = some (tyJxfd54e k) := by decide +kernel
def RJx3cf43 : String := "java/lang/constant/ConstantDesc"
def TJx3cf43 : u_T := fun k => match k with
  | _ => ("", "", "", false)
def tyJx3cf43 : Nat → FieldType := fun k => match k with
  | _ => .int
theorem nmJx3cf43 : ∀ a, a < 0 → ∀ b, b < 0 → a ≠ b → (TJx3cf43 a).2.1 ≠ (TJx3cf43 b).2.1 := by decide +kernel
theorem tyJx3cf43_ok : ∀ k, k < 0 → parseFieldDescriptor (TJx3cf43 k).2.2.1 = some (tyJx3cf43 k) := by decide +kernel
def RJ7 : String := "java/util/Arrays"
def TJ7 : u_T := fun k => match k with
  | _ => ("", "", "", false)
def tyJ7 : Nat → FieldType := fun k => match k with
  | _ => .int
theorem nmJ7 : ∀ a, a < 0 → ∀ b, b < 0 → a ≠ b → (TJ7 a).2.1 ≠ (TJ7 b).2.1 := by decide +kernel
theorem tyJ7_ok : ∀ k, k < 0 → parseFieldDescriptor (TJ7 k).2.2.1 = some (tyJ7 k) := by decide +kernel
abbrev cJ7_rangeCheck_23922 : ByteArray := prog_42_method_30_code
def yJ7_rangeCheck_23922 : MethodName := ⟨RJ7, "rangeCheck", "(III)V"⟩
abbrev cJ7_fill_eb02e : ByteArray := prog_42_method_110_code
def yJ7_fill_eb02e : MethodName := ⟨RJ7, "fill", "([BIIB)V"⟩
abbrev cJ7_copyOf_9075b : ByteArray := prog_42_method_121_code
def yJ7_copyOf_9075b : MethodName := ⟨RJ7, "copyOf", "([BI)[B"⟩
abbrev cJ7_checkLength_df160 : ByteArray := prog_42_method_131_code
def yJ7_checkLength_df160 : MethodName := ⟨RJ7, "checkLength", "(II)V"⟩
abbrev cJ7_copyOfRange_39247 : ByteArray := prog_42_method_132_code
def yJ7_copyOfRange_39247 : MethodName := ⟨RJ7, "copyOfRange", "([BII)[B"⟩
abbrev cJ7_copyOfRangeByte_39247 : ByteArray := prog_42_method_133_code
def yJ7_copyOfRangeByte_39247 : MethodName := ⟨RJ7, "copyOfRangeByte", "([BII)[B"⟩
def RJ8 : String := "jdk/internal/util/ArraysSupport"
def TJ8 : u_T := fun k => match k with
  | _ => ("", "", "", false)
def tyJ8 : Nat → FieldType := fun k => match k with
  | _ => .int
theorem nmJ8 : ∀ a, a < 0 → ∀ b, b < 0 → a ≠ b → (TJ8 a).2.1 ≠ (TJ8 b).2.1 := by decide +kernel
theorem tyJ8_ok : ∀ k, k < 0 → parseFieldDescriptor (TJ8 k).2.2.1 = some (tyJ8 k) := by decide +kernel
abbrev cJ8_newLength_cabcc : ByteArray := prog_44_method_27_code
def yJ8_newLength_cabcc : MethodName := ⟨RJ8, "newLength", "(III)I"⟩
abbrev cJ8_hugeLength_7cf53 : ByteArray := prog_44_method_28_code
def yJ8_hugeLength_7cf53 : MethodName := ⟨RJ8, "hugeLength", "(II)I"⟩
def RJ3 : String := "jdk/internal/util/Preconditions"
def TJ3 : u_T := fun k => match k with
  | _ => ("", "", "", false)
def tyJ3 : Nat → FieldType := fun k => match k with
  | _ => .int
theorem nmJ3 : ∀ a, a < 0 → ∀ b, b < 0 → a ≠ b → (TJ3 a).2.1 ≠ (TJ3 b).2.1 := by decide +kernel
theorem tyJ3_ok : ∀ k, k < 0 → parseFieldDescriptor (TJ3 k).2.2.1 = some (tyJ3 k) := by decide +kernel
abbrev cJ3_checkIndex_8e157 : ByteArray := prog_45_method_11_code
def yJ3_checkIndex_8e157 : MethodName := ⟨RJ3, "checkIndex", "(IILjava/util/function/BiFunction;)I"⟩
abbrev cJ3_checkFromToIndex_8c36e : ByteArray := prog_45_method_12_code
def yJ3_checkFromToIndex_8c36e : MethodName := ⟨RJ3, "checkFromToIndex", "(IIILjava/util/function/BiFunction;)I"⟩
abbrev cJ3_checkFromIndexSize_8c36e : ByteArray := prog_45_method_13_code
def yJ3_checkFromIndexSize_8c36e : MethodName := ⟨RJ3, "checkFromIndexSize", "(IIILjava/util/function/BiFunction;)I"⟩
def RL : String := "RiverReachesLaw"
abbrev cL_at : ByteArray := method_2_code
def yL_at : MethodName := ⟨RL, "at", "([II)I"⟩
abbrev cL_some : ByteArray := method_3_code
def yL_some : MethodName := ⟨RL, "some", "(II)I"⟩
abbrev cL_addReach : ByteArray := method_4_code
def yL_addReach : MethodName := ⟨RL, "addReach", "(LRiverReaches;III)I"⟩
abbrev cL_removeLast : ByteArray := method_5_code
def yL_removeLast : MethodName := ⟨RL, "removeLast", "(LRiverReaches;)I"⟩
abbrev cL_setLateral : ByteArray := method_6_code
def yL_setLateral : MethodName := ⟨RL, "setLateral", "(LRiverReaches;II)I"⟩
abbrev cL_fill : ByteArray := method_7_code
def yL_fill : MethodName := ⟨RL, "fill", "(LRiverReaches;II)I"⟩
abbrev cL_volume : ByteArray := method_8_code
def yL_volume : MethodName := ⟨RL, "volume", "(LRiverReaches;I)I"⟩
abbrev cL_lateral : ByteArray := method_9_code
def yL_lateral : MethodName := ⟨RL, "lateral", "(LRiverReaches;I)I"⟩
abbrev cL_inflow : ByteArray := method_10_code
def yL_inflow : MethodName := ⟨RL, "inflow", "(LRiverReaches;I)I"⟩
abbrev cL_outflow : ByteArray := method_11_code
def yL_outflow : MethodName := ⟨RL, "outflow", "(LRiverReaches;I)I"⟩
abbrev cL_setStages : ByteArray := method_12_code
def yL_setStages : MethodName := ⟨RL, "setStages", "(LRiverReaches;III)I"⟩
abbrev cL_setGate : ByteArray := method_13_code
def yL_setGate : MethodName := ⟨RL, "setGate", "(LRiverReaches;II)I"⟩
abbrev cL_setRule : ByteArray := method_14_code
def yL_setRule : MethodName := ⟨RL, "setRule", "(LRiverReaches;IC)I"⟩
abbrev cL_level : ByteArray := method_15_code
def yL_level : MethodName := ⟨RL, "level", "(LRiverReaches;I)I"⟩
abbrev cL_status : ByteArray := method_16_code
def yL_status : MethodName := ⟨RL, "status", "(LRiverReaches;I)I"⟩
abbrev cL_isFlooded : ByteArray := method_17_code
def yL_isFlooded : MethodName := ⟨RL, "isFlooded", "(LRiverReaches;I)I"⟩
abbrev cL_opening : ByteArray := method_18_code
def yL_opening : MethodName := ⟨RL, "opening", "(LRiverReaches;I)I"⟩
abbrev cL_rule : ByteArray := method_19_code
def yL_rule : MethodName := ⟨RL, "rule", "(LRiverReaches;I)I"⟩
abbrev cL_room : ByteArray := method_20_code
def yL_room : MethodName := ⟨RL, "room", "(LRiverReaches;I)I"⟩
abbrev cL_byLevel : ByteArray := method_21_code
def yL_byLevel : MethodName := ⟨RL, "byLevel", "(LRiverReaches;I)I"⟩
abbrev cL_addPulse : ByteArray := method_22_code
def yL_addPulse : MethodName := ⟨RL, "addPulse", "(LRiverReaches;III)I"⟩
abbrev cL_pass : ByteArray := method_23_code
def yL_pass : MethodName := ⟨RL, "pass", "(LRiverReaches;I)I"⟩
abbrev cL_headInflow : ByteArray := method_24_code
def yL_headInflow : MethodName := ⟨RL, "headInflow", "(LRiverReaches;I)I"⟩
abbrev cL_levelAfter : ByteArray := method_25_code
def yL_levelAfter : MethodName := ⟨RL, "levelAfter", "(LRiverReaches;II)I"⟩
abbrev cL_peak : ByteArray := method_26_code
def yL_peak : MethodName := ⟨RL, "peak", "(LRiverReaches;II)I"⟩
abbrev cL_untilFlood : ByteArray := method_27_code
def yL_untilFlood : MethodName := ⟨RL, "untilFlood", "(LRiverReaches;I)I"⟩
abbrev cL_volumeAfter : ByteArray := method_28_code
def yL_volumeAfter : MethodName := ⟨RL, "volumeAfter", "(LRiverReaches;I)I"⟩
abbrev cL_volumeByBalance : ByteArray := method_29_code
def yL_volumeByBalance : MethodName := ⟨RL, "volumeByBalance", "(LRiverReaches;I)I"⟩
abbrev cL_meanLevel : ByteArray := method_30_code
def yL_meanLevel : MethodName := ⟨RL, "meanLevel", "(LRiverReaches;)D"⟩
abbrev cL_floodedShare : ByteArray := method_31_code
def yL_floodedShare : MethodName := ⟨RL, "floodedShare", "(LRiverReaches;)F"⟩
abbrev cL_feed : ByteArray := method_32_code
def yL_feed : MethodName := ⟨RL, "feed", "(LRiverReaches;C)I"⟩
abbrev cL_execute : ByteArray := method_33_code
def yL_execute : MethodName := ⟨RL, "execute", "(LRiverReaches;)I"⟩
abbrev cL_faultPosition : ByteArray := method_34_code
def yL_faultPosition : MethodName := ⟨RL, "faultPosition", "(LRiverReaches;)I"⟩
abbrev cL_write : ByteArray := method_35_code
def yL_write : MethodName := ⟨RL, "write", "(LRiverReaches;I)I"⟩
abbrev cL_lineChar : ByteArray := method_36_code
def yL_lineChar : MethodName := ⟨RL, "lineChar", "(LRiverReaches;I)I"⟩
abbrev cL_denial : ByteArray := method_37_code
def yL_denial : MethodName := ⟨RL, "denial", "(LRiverReaches;)I"⟩
abbrev cL_denialDetail : ByteArray := method_38_code
def yL_denialDetail : MethodName := ⟨RL, "denialDetail", "(LRiverReaches;)I"⟩
abbrev cL_denialCause : ByteArray := method_39_code
def yL_denialCause : MethodName := ⟨RL, "denialCause", "(LRiverReaches;)I"⟩
abbrev cL_denialCauseDetail : ByteArray := method_40_code
def yL_denialCauseDetail : MethodName := ⟨RL, "denialCauseDetail", "(LRiverReaches;)I"⟩
abbrev cL_undo : ByteArray := method_41_code
def yL_undo : MethodName := ⟨RL, "undo", "(LRiverReaches;)I"⟩
abbrev cL_restore : ByteArray := method_42_code
def yL_restore : MethodName := ⟨RL, "restore", "(LRiverReaches;)I"⟩
abbrev cL_runs : ByteArray := method_43_code
def yL_runs : MethodName := ⟨RL, "runs", "(LRiverReaches;Ljava/lang/String;)I"⟩
abbrev cL_is : ByteArray := method_44_code
def yL_is : MethodName := ⟨RL, "is", "(LRiverReaches;II)Z"⟩
abbrev cL_isFive : ByteArray := method_45_code
def yL_isFive : MethodName := ⟨RL, "isFive", "(LRiverReaches;III)Z"⟩
abbrev cL_makes : ByteArray := method_47_code
def yL_makes : MethodName := ⟨RL, "makes", "(LRiverReaches;[I)Z"⟩
abbrev cL_asks : ByteArray := method_48_code
def yL_asks : MethodName := ⟨RL, "asks", "(LRiverReaches;)J"⟩
abbrev cL_changes : ByteArray := method_49_code
def yL_changes : MethodName := ⟨RL, "changes", "(LRiverReaches;I)Z"⟩
abbrev cL_thrown : ByteArray := method_50_code
def yL_thrown : MethodName := ⟨RL, "thrown", "(LRiverReaches;)Z"⟩
abbrev cL_law : ByteArray := code
def yL_law : MethodName := ⟨RL, "law", "([I)Z"⟩
abbrev vwCl : List vw_C := [(RJ0, TJ0, 4), (RJ4, TJ4, 4), (RJx00060, TJx00060, 6), (RJx7c733, TJx7c733, 6), (RX1, TX1, 4), (RX2, TX2, 4), (RX3, TX3, 3), (RX5, TX5, 3), (RX6, TX6, 11), (RX7, TX7, 8), (RX8, TX8, 5), (RX9, TX9, 9)]
