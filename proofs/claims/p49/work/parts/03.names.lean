def RX0 : String := "RadioBeacons$Beacon"
def TX0 : u_T := fun k => match k with
  | 0 => ("RadioBeacons$Beacon", "name", "J", false)
  | 1 => ("RadioBeacons$Beacon", "period", "I", false)
  | 2 => ("RadioBeacons$Beacon", "firstWake", "I", false)
  | 3 => ("RadioBeacons$Beacon", "listenSlots", "I", false)
  | 4 => ("RadioBeacons$Beacon", "sendSlots", "I", false)
  | 5 => ("RadioBeacons$Beacon", "energy", "I", false)
  | 6 => ("RadioBeacons$Beacon", "state", "I", false)
  | 7 => ("RadioBeacons$Beacon", "left", "I", false)
  | 8 => ("RadioBeacons$Beacon", "fails", "I", false)
  | 9 => ("RadioBeacons$Beacon", "skipped", "Z", false)
  | 10 => ("RadioBeacons$Beacon", "near", "I", false)
  | 11 => ("RadioBeacons$Beacon", "wentWell", "I", false)
  | 12 => ("RadioBeacons$Beacon", "gaveUp", "I", false)
  | 13 => ("RadioBeacons$Beacon", "lost", "I", false)
  | 14 => ("RadioBeacons$Beacon", "slotsIn", "[I", true)
  | 15 => ("RadioBeacons$Beacon", "heardAt", "[I", true)
  | 16 => ("RadioBeacons$Beacon", "soFar", "[I", true)
  | _ => ("RadioBeacons$Beacon", "latest", "[I", true)
def tyX0 : Nat → FieldType := fun k => match k with
  | 0 => .long
  | 1 => .int
  | 2 => .int
  | 3 => .int
  | 4 => .int
  | 5 => .int
  | 6 => .int
  | 7 => .int
  | 8 => .int
  | 9 => .boolean
  | 10 => .int
  | 11 => .int
  | 12 => .int
  | 13 => .int
  | 14 => .array .int
  | 15 => .array .int
  | 16 => .array .int
  | _ => .array .int
theorem nmX0 : ∀ a, a < 18 → ∀ b, b < 18 → a ≠ b → (TX0 a).2.1 ≠ (TX0 b).2.1 := by decide +kernel
theorem tyX0_ok : ∀ k, k < 18 → parseFieldDescriptor (TX0 k).2.2.1 = some (tyX0 k) := by decide +kernel
abbrev cX0_init : ByteArray := prog_2_method_1_code
def yX0_init : MethodName := ⟨RX0, "<init>", "()V"⟩
abbrev cX0_begin : ByteArray := prog_2_method_2_code
def yX0_begin : MethodName := ⟨RX0, "begin", "(J)V"⟩
abbrev cX0_copyFrom : ByteArray := prog_2_method_3_code
def yX0_copyFrom : MethodName := ⟨RX0, "copyFrom", "(LRadioBeacons$Beacon;)V"⟩
abbrev cX0_allowsPeriod : ByteArray := prog_2_method_4_code
def yX0_allowsPeriod : MethodName := ⟨RX0, "allowsPeriod", "(I)Z"⟩
abbrev cX0_allowsFirstWake : ByteArray := prog_2_method_5_code
def yX0_allowsFirstWake : MethodName := ⟨RX0, "allowsFirstWake", "(I)Z"⟩
abbrev cX0_isDueAt : ByteArray := prog_2_method_6_code
def yX0_isDueAt : MethodName := ⟨RX0, "isDueAt", "(I)Z"⟩
abbrev cX0_slotsUntilDue : ByteArray := prog_2_method_7_code
def yX0_slotsUntilDue : MethodName := ⟨RX0, "slotsUntilDue", "(I)I"⟩
abbrev cX0_windowSize : ByteArray := prog_2_method_8_code
def yX0_windowSize : MethodName := ⟨RX0, "windowSize", "()I"⟩
abbrev cX0_hasOpenEars : ByteArray := prog_2_method_9_code
def yX0_hasOpenEars : MethodName := ⟨RX0, "hasOpenEars", "()Z"⟩
abbrev cX0_fallAsleep : ByteArray := prog_2_method_10_code
def yX0_fallAsleep : MethodName := ⟨RX0, "fallAsleep", "()V"⟩
abbrev cX0_startListening : ByteArray := prog_2_method_11_code
def yX0_startListening : MethodName := ⟨RX0, "startListening", "()V"⟩
abbrev cX0_startSending : ByteArray := prog_2_method_12_code
def yX0_startSending : MethodName := ⟨RX0, "startSending", "()V"⟩
abbrev cX0_payForSlot : ByteArray := prog_2_method_13_code
def yX0_payForSlot : MethodName := ⟨RX0, "payForSlot", "(I)V"⟩
abbrev cX0_takeEnergy : ByteArray := prog_2_method_14_code
def yX0_takeEnergy : MethodName := ⟨RX0, "takeEnergy", "(I)V"⟩
def RX1 : String := "RadioBeacons$Page"
def TX1 : u_T := fun k => match k with
  | 0 => ("RadioBeacons$Page", "bytes", "[B", true)
  | _ => ("RadioBeacons$Page", "length", "I", false)
def tyX1 : Nat → FieldType := fun k => match k with
  | 0 => .array .byte
  | _ => .int
theorem nmX1 : ∀ a, a < 2 → ∀ b, b < 2 → a ≠ b → (TX1 a).2.1 ≠ (TX1 b).2.1 := by decide +kernel
theorem tyX1_ok : ∀ k, k < 2 → parseFieldDescriptor (TX1 k).2.2.1 = some (tyX1 k) := by decide +kernel
abbrev cX1_init : ByteArray := prog_3_method_1_code
def yX1_init : MethodName := ⟨RX1, "<init>", "()V"⟩
def RX2 : String := "RadioBeacons$Script"
def TX2 : u_T := fun k => match k with
  | 0 => ("RadioBeacons$Script", "tokens", "LRadioBeacons$Tokens;", true)
  | 1 => ("RadioBeacons$Script", "kinds", "[I", true)
  | 2 => ("RadioBeacons$Script", "first", "[I", true)
  | 3 => ("RadioBeacons$Script", "second", "[I", true)
  | 4 => ("RadioBeacons$Script", "steps", "I", false)
  | 5 => ("RadioBeacons$Script", "commands", "I", false)
  | 6 => ("RadioBeacons$Script", "opened", "[I", true)
  | 7 => ("RadioBeacons$Script", "turnsLeft", "[I", true)
  | _ => ("RadioBeacons$Script", "depth", "I", false)
def tyX2 : Nat → FieldType := fun k => match k with
  | 0 => .object "RadioBeacons$Tokens"
  | 1 => .array .int
  | 2 => .array .int
  | 3 => .array .int
  | 4 => .int
  | 5 => .int
  | 6 => .array .int
  | 7 => .array .int
  | _ => .int
theorem nmX2 : ∀ a, a < 9 → ∀ b, b < 9 → a ≠ b → (TX2 a).2.1 ≠ (TX2 b).2.1 := by decide +kernel
theorem tyX2_ok : ∀ k, k < 9 → parseFieldDescriptor (TX2 k).2.2.1 = some (tyX2 k) := by decide +kernel
abbrev cX2_init : ByteArray := prog_4_method_1_code
def yX2_init : MethodName := ⟨RX2, "<init>", "()V"⟩
def RX3 : String := "RadioBeacons$TextReader"
def TX3 : u_T := fun k => match k with
  | 0 => ("RadioBeacons$TextReader", "tokens", "LRadioBeacons$Tokens;", true)
  | _ => ("RadioBeacons$TextReader", "told", "I", false)
def tyX3 : Nat → FieldType := fun k => match k with
  | 0 => .object "RadioBeacons$Tokens"
  | _ => .int
theorem nmX3 : ∀ a, a < 2 → ∀ b, b < 2 → a ≠ b → (TX3 a).2.1 ≠ (TX3 b).2.1 := by decide +kernel
theorem tyX3_ok : ∀ k, k < 2 → parseFieldDescriptor (TX3 k).2.2.1 = some (tyX3 k) := by decide +kernel
abbrev cX3_init : ByteArray := prog_5_method_1_code
def yX3_init : MethodName := ⟨RX3, "<init>", "()V"⟩
abbrev cX3_readAll : ByteArray := prog_5_method_2_code
def yX3_readAll : MethodName := ⟨RX3, "readAll", "(LRadioBeacons$World;)Z"⟩
abbrev cX3_readStatement : ByteArray := prog_5_method_3_code
def yX3_readStatement : MethodName := ⟨RX3, "readStatement", "(LRadioBeacons$World;)Z"⟩
abbrev cX3_tellOnce : ByteArray := prog_5_method_4_code
def yX3_tellOnce : MethodName := ⟨RX3, "tellOnce", "(I)Z"⟩
abbrev cX3_readCosts : ByteArray := prog_5_method_5_code
def yX3_readCosts : MethodName := ⟨RX3, "readCosts", "(LRadioBeacons$World;)Z"⟩
abbrev cX3_readSeed : ByteArray := prog_5_method_6_code
def yX3_readSeed : MethodName := ⟨RX3, "readSeed", "(LRadioBeacons$World;)Z"⟩
abbrev cX3_readTries : ByteArray := prog_5_method_7_code
def yX3_readTries : MethodName := ⟨RX3, "readTries", "(LRadioBeacons$World;)Z"⟩
abbrev cX3_readMemory : ByteArray := prog_5_method_8_code
def yX3_readMemory : MethodName := ⟨RX3, "readMemory", "(LRadioBeacons$World;)Z"⟩
abbrev cX3_readBeacon : ByteArray := prog_5_method_9_code
def yX3_readBeacon : MethodName := ⟨RX3, "readBeacon", "(LRadioBeacons$World;)Z"⟩
abbrev cX3_takeNewName : ByteArray := prog_5_method_10_code
def yX3_takeNewName : MethodName := ⟨RX3, "takeNewName", "(LRadioBeacons$World;LRadioBeacons$Beacon;)Z"⟩
abbrev cX3_readPart : ByteArray := prog_5_method_11_code
def yX3_readPart : MethodName := ⟨RX3, "readPart", "(Ljava/lang/String;III)I"⟩
abbrev cX3_readNear : ByteArray := prog_5_method_12_code
def yX3_readNear : MethodName := ⟨RX3, "readNear", "(LRadioBeacons$World;)Z"⟩
def RX4 : String := "RadioBeacons$Tokens"
def TX4 : u_T := fun k => match k with
  | 0 => ("RadioBeacons$Tokens", "kinds", "[I", true)
  | 1 => ("RadioBeacons$Tokens", "starts", "[I", true)
  | 2 => ("RadioBeacons$Tokens", "values", "[J", true)
  | 3 => ("RadioBeacons$Tokens", "count", "I", false)
  | 4 => ("RadioBeacons$Tokens", "next", "I", false)
  | 5 => ("RadioBeacons$Tokens", "kind", "I", false)
  | 6 => ("RadioBeacons$Tokens", "start", "I", false)
  | 7 => ("RadioBeacons$Tokens", "value", "J", false)
  | 8 => ("RadioBeacons$Tokens", "error", "I", false)
  | _ => ("RadioBeacons$Tokens", "errorAt", "I", false)
def tyX4 : Nat → FieldType := fun k => match k with
  | 0 => .array .int
  | 1 => .array .int
  | 2 => .array .long
  | 3 => .int
  | 4 => .int
  | 5 => .int
  | 6 => .int
  | 7 => .long
  | 8 => .int
  | _ => .int
theorem nmX4 : ∀ a, a < 10 → ∀ b, b < 10 → a ≠ b → (TX4 a).2.1 ≠ (TX4 b).2.1 := by decide +kernel
theorem tyX4_ok : ∀ k, k < 10 → parseFieldDescriptor (TX4 k).2.2.1 = some (tyX4 k) := by decide +kernel
abbrev cX4_init : ByteArray := prog_6_method_1_code
def yX4_init : MethodName := ⟨RX4, "<init>", "()V"⟩
abbrev cX4_begin : ByteArray := prog_6_method_2_code
def yX4_begin : MethodName := ⟨RX4, "begin", "([BI)V"⟩
abbrev cX4_addWord : ByteArray := prog_6_method_3_code
def yX4_addWord : MethodName := ⟨RX4, "addWord", "([BII)I"⟩
abbrev cX4_addNumber : ByteArray := prog_6_method_4_code
def yX4_addNumber : MethodName := ⟨RX4, "addNumber", "([BII)I"⟩
abbrev cX4_addSign : ByteArray := prog_6_method_5_code
def yX4_addSign : MethodName := ⟨RX4, "addSign", "(II)V"⟩
abbrev cX4_add : ByteArray := prog_6_method_6_code
def yX4_add : MethodName := ⟨RX4, "add", "(IIJ)V"⟩
abbrev cX4_isLetter : ByteArray := prog_6_method_7_code
def yX4_isLetter : MethodName := ⟨RX4, "isLetter", "(I)Z"⟩
abbrev cX4_isDigit : ByteArray := prog_6_method_8_code
def yX4_isDigit : MethodName := ⟨RX4, "isDigit", "(I)Z"⟩
abbrev cX4_advance : ByteArray := prog_6_method_9_code
def yX4_advance : MethodName := ⟨RX4, "advance", "()V"⟩
abbrev cX4_isWord : ByteArray := prog_6_method_10_code
def yX4_isWord : MethodName := ⟨RX4, "isWord", "(Ljava/lang/String;)Z"⟩
abbrev cX4_fail : ByteArray := prog_6_method_11_code
def yX4_fail : MethodName := ⟨RX4, "fail", "(I)Z"⟩
abbrev cX4_takeWord : ByteArray := prog_6_method_12_code
def yX4_takeWord : MethodName := ⟨RX4, "takeWord", "(Ljava/lang/String;)Z"⟩
abbrev cX4_takeSign : ByteArray := prog_6_method_13_code
def yX4_takeSign : MethodName := ⟨RX4, "takeSign", "(C)Z"⟩
abbrev cX4_takeNumber : ByteArray := prog_6_method_14_code
def yX4_takeNumber : MethodName := ⟨RX4, "takeNumber", "(II)I"⟩
abbrev cX4_beaconHere : ByteArray := prog_6_method_15_code
def yX4_beaconHere : MethodName := ⟨RX4, "beaconHere", "(LRadioBeacons$World;)I"⟩
def RX5 : String := "RadioBeacons$World"
def TX5 : u_T := fun k => match k with
  | 0 => ("RadioBeacons$World", "beacons", "[LRadioBeacons$Beacon;", true)
  | 1 => ("RadioBeacons$World", "costs", "[I", true)
  | 2 => ("RadioBeacons$World", "count", "I", false)
  | 3 => ("RadioBeacons$World", "tries", "I", false)
  | 4 => ("RadioBeacons$World", "memory", "I", false)
  | 5 => ("RadioBeacons$World", "time", "I", false)
  | 6 => ("RadioBeacons$World", "drawn", "I", false)
  | 7 => ("RadioBeacons$World", "wentWell", "I", false)
  | 8 => ("RadioBeacons$World", "gaveUp", "I", false)
  | 9 => ("RadioBeacons$World", "collisions", "I", false)
  | _ => ("RadioBeacons$World", "senders", "I", false)
def tyX5 : Nat → FieldType := fun k => match k with
  | 0 => .array (.object "RadioBeacons$Beacon")
  | 1 => .array .int
  | 2 => .int
  | 3 => .int
  | 4 => .int
  | 5 => .int
  | 6 => .int
  | 7 => .int
  | 8 => .int
  | 9 => .int
  | _ => .int
theorem nmX5 : ∀ a, a < 11 → ∀ b, b < 11 → a ≠ b → (TX5 a).2.1 ≠ (TX5 b).2.1 := by decide +kernel
theorem tyX5_ok : ∀ k, k < 11 → parseFieldDescriptor (TX5 k).2.2.1 = some (tyX5 k) := by decide +kernel
abbrev cX5_init : ByteArray := prog_7_method_1_code
def yX5_init : MethodName := ⟨RX5, "<init>", "()V"⟩
abbrev cX5_clear : ByteArray := prog_7_method_2_code
def yX5_clear : MethodName := ⟨RX5, "clear", "()V"⟩
abbrev cX5_copyFrom : ByteArray := prog_7_method_3_code
def yX5_copyFrom : MethodName := ⟨RX5, "copyFrom", "(LRadioBeacons$World;)V"⟩
abbrev cX5_find : ByteArray := prog_7_method_4_code
def yX5_find : MethodName := ⟨RX5, "find", "(J)I"⟩
abbrev cX5_nearPairs : ByteArray := prog_7_method_5_code
def yX5_nearPairs : MethodName := ⟨RX5, "nearPairs", "()I"⟩
abbrev cX5_inState : ByteArray := prog_7_method_6_code
def yX5_inState : MethodName := ⟨RX5, "inState", "(I)I"⟩
abbrev cX5_outCount : ByteArray := prog_7_method_7_code
def yX5_outCount : MethodName := ⟨RX5, "outCount", "()I"⟩
abbrev cX5_knownTo : ByteArray := prog_7_method_8_code
def yX5_knownTo : MethodName := ⟨RX5, "knownTo", "(LRadioBeacons$Beacon;)I"⟩
abbrev cX5_isAllKnown : ByteArray := prog_7_method_9_code
def yX5_isAllKnown : MethodName := ⟨RX5, "isAllKnown", "()Z"⟩
abbrev cX5_withNear : ByteArray := prog_7_method_10_code
def yX5_withNear : MethodName := ⟨RX5, "withNear", "(I)I"⟩
abbrev cX5_switchNear : ByteArray := prog_7_method_12_code
def yX5_switchNear : MethodName := ⟨RX5, "switchNear", "(II)V"⟩
abbrev cX5_mayPass : ByteArray := prog_7_method_13_code
def yX5_mayPass : MethodName := ⟨RX5, "mayPass", "(I)Z"⟩
abbrev cX5_pass : ByteArray := prog_7_method_14_code
def yX5_pass : MethodName := ⟨RX5, "pass", "(I)V"⟩
abbrev cX5_changeStates : ByteArray := prog_7_method_15_code
def yX5_changeStates : MethodName := ⟨RX5, "changeStates", "()V"⟩
abbrev cX5_wakeOrSkip : ByteArray := prog_7_method_16_code
def yX5_wakeOrSkip : MethodName := ⟨RX5, "wakeOrSkip", "(LRadioBeacons$Beacon;)V"⟩
abbrev cX5_waitOn : ByteArray := prog_7_method_17_code
def yX5_waitOn : MethodName := ⟨RX5, "waitOn", "(LRadioBeacons$Beacon;)V"⟩
abbrev cX5_waitByDraw : ByteArray := prog_7_method_18_code
def yX5_waitByDraw : MethodName := ⟨RX5, "waitByDraw", "(LRadioBeacons$Beacon;)V"⟩
abbrev cX5_payForStates : ByteArray := prog_7_method_19_code
def yX5_payForStates : MethodName := ⟨RX5, "payForStates", "()V"⟩
abbrev cX5_listenToSenders : ByteArray := prog_7_method_20_code
def yX5_listenToSenders : MethodName := ⟨RX5, "listenToSenders", "()V"⟩
abbrev cX5_reasonAgainst : ByteArray := prog_7_method_21_code
def yX5_reasonAgainst : MethodName := ⟨RX5, "reasonAgainst", "(LRadioBeacons$Beacon;IZ)I"⟩
abbrev cX5_endSendings : ByteArray := prog_7_method_22_code
def yX5_endSendings : MethodName := ⟨RX5, "endSendings", "()V"⟩
abbrev cX5_endSending : ByteArray := prog_7_method_23_code
def yX5_endSending : MethodName := ⟨RX5, "endSending", "(LRadioBeacons$Beacon;I)Z"⟩
abbrev cX5_tellEars : ByteArray := prog_7_method_24_code
def yX5_tellEars : MethodName := ⟨RX5, "tellEars", "(LRadioBeacons$Beacon;I)Z"⟩
def RX6 : String := "RadioBeacons"
def TX6 : u_T := fun k => match k with
  | 0 => ("RadioBeacons", "buffer", "[B", true)
  | 1 => ("RadioBeacons", "fed", "I", false)
  | 2 => ("RadioBeacons", "error", "I", false)
  | 3 => ("RadioBeacons", "errorAt", "I", false)
  | 4 => ("RadioBeacons", "now", "LRadioBeacons$World;", true)
  | 5 => ("RadioBeacons", "trial", "LRadioBeacons$World;", true)
  | 6 => ("RadioBeacons", "kept", "LRadioBeacons$World;", true)
  | 7 => ("RadioBeacons", "hasKept", "Z", false)
  | 8 => ("RadioBeacons", "past", "[LRadioBeacons$World;", true)
  | 9 => ("RadioBeacons", "undoable", "I", false)
  | 10 => ("RadioBeacons", "page", "LRadioBeacons$Page;", true)
  | 11 => ("RadioBeacons", "textReader", "LRadioBeacons$TextReader;", true)
  | _ => ("RadioBeacons", "script", "LRadioBeacons$Script;", true)
def tyX6 : Nat → FieldType := fun k => match k with
  | 0 => .array .byte
  | 1 => .int
  | 2 => .int
  | 3 => .int
  | 4 => .object "RadioBeacons$World"
  | 5 => .object "RadioBeacons$World"
  | 6 => .object "RadioBeacons$World"
  | 7 => .boolean
  | 8 => .array (.object "RadioBeacons$World")
  | 9 => .int
  | 10 => .object "RadioBeacons$Page"
  | 11 => .object "RadioBeacons$TextReader"
  | _ => .object "RadioBeacons$Script"
theorem nmX6 : ∀ a, a < 13 → ∀ b, b < 13 → a ≠ b → (TX6 a).2.1 ≠ (TX6 b).2.1 := by decide +kernel
theorem tyX6_ok : ∀ k, k < 13 → parseFieldDescriptor (TX6 k).2.2.1 = some (tyX6 k) := by decide +kernel
abbrev cX6_init : ByteArray := prog_1_method_1_code
def yX6_init : MethodName := ⟨RX6, "<init>", "()V"⟩
abbrev cX6_feed : ByteArray := prog_1_method_2_code
def yX6_feed : MethodName := ⟨RX6, "feed", "(IIIII)I"⟩
abbrev cX6_append : ByteArray := prog_1_method_3_code
def yX6_append : MethodName := ⟨RX6, "append", "(I)V"⟩
abbrev cX6_truncate : ByteArray := prog_1_method_4_code
def yX6_truncate : MethodName := ⟨RX6, "truncate", "(I)I"⟩
abbrev cX6_readText : ByteArray := prog_1_method_5_code
def yX6_readText : MethodName := ⟨RX6, "readText", "()I"⟩
abbrev cX6_endReading : ByteArray := prog_1_method_7_code
def yX6_endReading : MethodName := ⟨RX6, "endReading", "(LRadioBeacons$Tokens;)V"⟩
abbrev cX6_setting : ByteArray := prog_1_method_10_code
def yX6_setting : MethodName := ⟨RX6, "setting", "(I)I"⟩
abbrev cX6_beacon : ByteArray := prog_1_method_11_code
def yX6_beacon : MethodName := ⟨RX6, "beacon", "(II)I"⟩
abbrev cX6_slots : ByteArray := prog_1_method_12_code
def yX6_slots : MethodName := ⟨RX6, "slots", "(II)I"⟩
abbrev cX6_reckoned : ByteArray := prog_1_method_13_code
def yX6_reckoned : MethodName := ⟨RX6, "reckoned", "(I)I"⟩
abbrev cX6_heard : ByteArray := prog_1_method_15_code
def yX6_heard : MethodName := ⟨RX6, "heard", "(II)I"⟩
abbrev cX6_knows : ByteArray := prog_1_method_16_code
def yX6_knows : MethodName := ⟨RX6, "knows", "(II)Z"⟩
abbrev cX6_whyNot : ByteArray := prog_1_method_20_code
def yX6_whyNot : MethodName := ⟨RX6, "whyNot", "(II)I"⟩
abbrev cX6_dueIn : ByteArray := prog_1_method_21_code
def yX6_dueIn : MethodName := ⟨RX6, "dueIn", "(I)I"⟩
abbrev cX6_hops : ByteArray := prog_1_method_23_code
def yX6_hops : MethodName := ⟨RX6, "hops", "(II)I"⟩
abbrev cX6_window : ByteArray := prog_1_method_27_code
def yX6_window : MethodName := ⟨RX6, "window", "(I)I"⟩
abbrev cX6_stateIn : ByteArray := prog_1_method_28_code
def yX6_stateIn : MethodName := ⟨RX6, "stateIn", "(II)I"⟩
abbrev cX6_energyIn : ByteArray := prog_1_method_29_code
def yX6_energyIn : MethodName := ⟨RX6, "energyIn", "(II)I"⟩
abbrev cX6_collisionsIn : ByteArray := prog_1_method_30_code
def yX6_collisionsIn : MethodName := ⟨RX6, "collisionsIn", "(I)I"⟩
abbrev cX6_wellIn : ByteArray := prog_1_method_35_code
def yX6_wellIn : MethodName := ⟨RX6, "wellIn", "(I)I"⟩
abbrev cX6_tryAhead : ByteArray := prog_1_method_38_code
def yX6_tryAhead : MethodName := ⟨RX6, "tryAhead", "(I)V"⟩
abbrev cX6_slotsUntil : ByteArray := prog_1_method_39_code
def yX6_slotsUntil : MethodName := ⟨RX6, "slotsUntil", "(IIII)I"⟩
abbrev cX6_hasCome : ByteArray := prog_1_method_40_code
def yX6_hasCome : MethodName := ⟨RX6, "hasCome", "(III)Z"⟩
abbrev cX6_run : ByteArray := prog_1_method_41_code
def yX6_run : MethodName := ⟨RX6, "run", "(I)I"⟩
abbrev cX6_wake : ByteArray := prog_1_method_42_code
def yX6_wake : MethodName := ⟨RX6, "wake", "(I)I"⟩
abbrev cX6_setEvery : ByteArray := prog_1_method_43_code
def yX6_setEvery : MethodName := ⟨RX6, "setEvery", "(II)I"⟩
abbrev cX6_setAt : ByteArray := prog_1_method_44_code
def yX6_setAt : MethodName := ⟨RX6, "setAt", "(II)I"⟩
abbrev cX6_charge : ByteArray := prog_1_method_45_code
def yX6_charge : MethodName := ⟨RX6, "charge", "(II)I"⟩
abbrev cX6_setNear : ByteArray := prog_1_method_46_code
def yX6_setNear : MethodName := ⟨RX6, "setNear", "(IIZ)Z"⟩
abbrev cX6_setTries : ByteArray := prog_1_method_47_code
def yX6_setTries : MethodName := ⟨RX6, "setTries", "(I)I"⟩
abbrev cX6_undo : ByteArray := prog_1_method_50_code
def yX6_undo : MethodName := ⟨RX6, "undo", "()I"⟩
abbrev cX6_keepForUndo : ByteArray := prog_1_method_53_code
def yX6_keepForUndo : MethodName := ⟨RX6, "keepForUndo", "()V"⟩
abbrev cX6_requireBeacon : ByteArray := prog_1_method_54_code
def yX6_requireBeacon : MethodName := ⟨RX6, "requireBeacon", "(I)V"⟩
abbrev cX6_requireAhead : ByteArray := prog_1_method_55_code
def yX6_requireAhead : MethodName := ⟨RX6, "requireAhead", "(I)V"⟩
abbrev cX6_isCharge : ByteArray := prog_1_method_56_code
def yX6_isCharge : MethodName := ⟨RX6, "isCharge", "(I)Z"⟩
abbrev cX6_isIn : ByteArray := prog_1_method_57_code
def yX6_isIn : MethodName := ⟨RX6, "isIn", "(II)Z"⟩
abbrev cX6_letterOf : ByteArray := prog_1_method_58_code
def yX6_letterOf : MethodName := ⟨RX6, "letterOf", "(JI)I"⟩
def RX7 : String := "RadioBeaconsLaw$Beacon"
def TX7 : u_T := fun k => match k with
  | 0 => ("RadioBeaconsLaw$Beacon", "period", "I", false)
  | 1 => ("RadioBeaconsLaw$Beacon", "first", "I", false)
  | 2 => ("RadioBeaconsLaw$Beacon", "listens", "I", false)
  | 3 => ("RadioBeaconsLaw$Beacon", "sends", "I", false)
  | 4 => ("RadioBeaconsLaw$Beacon", "energy", "I", false)
  | 5 => ("RadioBeaconsLaw$Beacon", "state", "I", false)
  | 6 => ("RadioBeaconsLaw$Beacon", "left", "I", false)
  | 7 => ("RadioBeaconsLaw$Beacon", "fails", "I", false)
  | 8 => ("RadioBeaconsLaw$Beacon", "well", "I", false)
  | 9 => ("RadioBeaconsLaw$Beacon", "up", "I", false)
  | 10 => ("RadioBeaconsLaw$Beacon", "lost", "I", false)
  | 11 => ("RadioBeaconsLaw$Beacon", "hasSkipped", "Z", false)
  | 12 => ("RadioBeaconsLaw$Beacon", "slots", "[I", false)
  | 13 => ("RadioBeaconsLaw$Beacon", "heard", "[I", false)
  | 14 => ("RadioBeaconsLaw$Beacon", "why", "[I", false)
  | _ => ("RadioBeaconsLaw$Beacon", "last", "[I", false)
def tyX7 : Nat → FieldType := fun k => match k with
  | 0 => .int
  | 1 => .int
  | 2 => .int
  | 3 => .int
  | 4 => .int
  | 5 => .int
  | 6 => .int
  | 7 => .int
  | 8 => .int
  | 9 => .int
  | 10 => .int
  | 11 => .boolean
  | 12 => .array .int
  | 13 => .array .int
  | 14 => .array .int
  | _ => .array .int
theorem nmX7 : ∀ a, a < 16 → ∀ b, b < 16 → a ≠ b → (TX7 a).2.1 ≠ (TX7 b).2.1 := by decide +kernel
theorem tyX7_ok : ∀ k, k < 16 → parseFieldDescriptor (TX7 k).2.2.1 = some (tyX7 k) := by decide +kernel
abbrev cX7_init : ByteArray := prog_9_method_1_code
def yX7_init : MethodName := ⟨RX7, "<init>", "()V"⟩
def RX8 : String := "RadioBeaconsLaw$World"
def TX8 : u_T := fun k => match k with
  | 0 => ("RadioBeaconsLaw$World", "time", "I", false)
  | 1 => ("RadioBeaconsLaw$World", "x", "I", false)
  | 2 => ("RadioBeaconsLaw$World", "tries", "I", false)
  | 3 => ("RadioBeaconsLaw$World", "memory", "I", false)
  | 4 => ("RadioBeaconsLaw$World", "well", "I", false)
  | 5 => ("RadioBeaconsLaw$World", "up", "I", false)
  | 6 => ("RadioBeaconsLaw$World", "collisions", "I", false)
  | 7 => ("RadioBeaconsLaw$World", "cost", "[I", false)
  | 8 => ("RadioBeaconsLaw$World", "near", "[[Z", false)
  | 9 => ("RadioBeaconsLaw$World", "sent", "[Z", false)
  | 10 => ("RadioBeaconsLaw$World", "all", "Ljava/util/List;", false)
  | _ => ("RadioBeaconsLaw$World", "text", "Ljava/lang/String;", false)
def tyX8 : Nat → FieldType := fun k => match k with
  | 0 => .int
  | 1 => .int
  | 2 => .int
  | 3 => .int
  | 4 => .int
  | 5 => .int
  | 6 => .int
  | 7 => .array .int
  | 8 => .array (.array .boolean)
  | 9 => .array .boolean
  | 10 => .object "java/util/List"
  | _ => .object "java/lang/String"
theorem nmX8 : ∀ a, a < 12 → ∀ b, b < 12 → a ≠ b → (TX8 a).2.1 ≠ (TX8 b).2.1 := by decide +kernel
theorem tyX8_ok : ∀ k, k < 12 → parseFieldDescriptor (TX8 k).2.2.1 = some (tyX8 k) := by decide +kernel
abbrev cX8_init : ByteArray := prog_10_method_1_code
def yX8_init : MethodName := ⟨RX8, "<init>", "()V"⟩
abbrev cX8_grown : ByteArray := prog_10_method_2_code
def yX8_grown : MethodName := ⟨RX8, "grown", "([I)LRadioBeaconsLaw$World;"⟩
abbrev cX8_knows : ByteArray := prog_10_method_4_code
def yX8_knows : MethodName := ⟨RX8, "knows", "(II)Z"⟩
abbrev cX8_window : ByteArray := prog_10_method_5_code
def yX8_window : MethodName := ⟨RX8, "window", "(I)I"⟩
abbrev cX8_draw : ByteArray := prog_10_method_6_code
def yX8_draw : MethodName := ⟨RX8, "draw", "(I)I"⟩
abbrev cX8_isDue : ByteArray := prog_10_method_7_code
def yX8_isDue : MethodName := ⟨RX8, "isDue", "(II)Z"⟩
abbrev cX8_knowsAll : ByteArray := prog_10_method_8_code
def yX8_knowsAll : MethodName := ⟨RX8, "knowsAll", "(I)Z"⟩
abbrev cX8_near : ByteArray := prog_10_method_9_code
def yX8_near : MethodName := ⟨RX8, "near", "(I)I"⟩
abbrev cX8_waits : ByteArray := prog_10_method_10_code
def yX8_waits : MethodName := ⟨RX8, "waits", "(I)V"⟩
abbrev cX8_changes : ByteArray := prog_10_method_11_code
def yX8_changes : MethodName := ⟨RX8, "changes", "(I)V"⟩
abbrev cX8_deaf : ByteArray := prog_10_method_12_code
def yX8_deaf : MethodName := ⟨RX8, "deaf", "(II)I"⟩
abbrev cX8_sendersNear : ByteArray := prog_10_method_13_code
def yX8_sendersNear : MethodName := ⟨RX8, "sendersNear", "(I)I"⟩
abbrev cX8_ends : ByteArray := prog_10_method_14_code
def yX8_ends : MethodName := ⟨RX8, "ends", "(I)V"⟩
abbrev cX8_slot : ByteArray := prog_10_method_15_code
def yX8_slot : MethodName := ⟨RX8, "slot", "()I"⟩
abbrev cX8_run : ByteArray := prog_10_method_16_code
def yX8_run : MethodName := ⟨RX8, "run", "(I)I"⟩
abbrev cX8_due : ByteArray := prog_10_method_17_code
def yX8_due : MethodName := ⟨RX8, "due", "(I)I"⟩
def RX9 : String := "RadioBeaconsModel"
def TX9 : u_T := fun k => match k with
  | _ => ("", "", "", false)
def tyX9 : Nat → FieldType := fun k => match k with
  | _ => .int
theorem nmX9 : ∀ a, a < 0 → ∀ b, b < 0 → a ≠ b → (TX9 a).2.1 ≠ (TX9 b).2.1 := by decide +kernel
theorem tyX9_ok : ∀ k, k < 0 → parseFieldDescriptor (TX9 k).2.2.1 = some (tyX9 k) := by decide +kernel
def RJx145de : String := "java/io/Serializable"
def TJx145de : u_T := fun k => match k with
  | _ => ("", "", "", false)
def tyJx145de : Nat → FieldType := fun k => match k with
  | _ => .int
theorem nmJx145de : ∀ a, a < 0 → ∀ b, b < 0 → a ≠ b → (TJx145de a).2.1 ≠ (TJx145de b).2.1 := by decide +kernel
theorem tyJx145de_ok : ∀ k, k < 0 → parseFieldDescriptor (TJx145de k).2.2.1 = some (tyJx145de k) := by decide +kernel
def RJ5 : String := "java/lang/AbstractStringBuilder"
def TJ5 : u_T := fun k => match k with
  | _ => ("", "", "", false)
def tyJ5 : Nat → FieldType := fun k => match k with
  | _ => .int
theorem nmJ5 : ∀ a, a < 0 → ∀ b, b < 0 → a ≠ b → (TJ5 a).2.1 ≠ (TJ5 b).2.1 := by decide +kernel
theorem tyJ5_ok : ∀ k, k < 0 → parseFieldDescriptor (TJ5 k).2.2.1 = some (tyJ5 k) := by decide +kernel
abbrev cJ5_init_d00df : ByteArray := prog_13_method_2_code
def yJ5_init_d00df : MethodName := ⟨RJ5, "<init>", "(I)V"⟩
abbrev cJ5_length_8abf5 : ByteArray := prog_13_method_6_code
def yJ5_length_8abf5 : MethodName := ⟨RJ5, "length", "()I"⟩
abbrev cJ5_ensureCapacityInternal_d00df : ByteArray := prog_13_method_9_code
def yJ5_ensureCapacityInternal_d00df : MethodName := ⟨RJ5, "ensureCapacityInternal", "(I)V"⟩
abbrev cJ5_newCapacity_0f7a4 : ByteArray := prog_13_method_10_code
def yJ5_newCapacity_0f7a4 : MethodName := ⟨RJ5, "newCapacity", "(I)I"⟩
abbrev cJ5_inflate_da8c8 : ByteArray := prog_13_method_11_code
def yJ5_inflate_da8c8 : MethodName := ⟨RJ5, "inflate", "()V"⟩
abbrev cJ5_append_cf1ce : ByteArray := prog_13_method_22_code
def yJ5_append_cf1ce : MethodName := ⟨RJ5, "append", "(Ljava/lang/String;)Ljava/lang/AbstractStringBuilder;"⟩
abbrev cJ5_appendNull_278bc : ByteArray := prog_13_method_26_code
def yJ5_appendNull_278bc : MethodName := ⟨RJ5, "appendNull", "()Ljava/lang/AbstractStringBuilder;"⟩
abbrev cJ5_append_3fe6f : ByteArray := prog_13_method_31_code
def yJ5_append_3fe6f : MethodName := ⟨RJ5, "append", "(C)Ljava/lang/AbstractStringBuilder;"⟩
abbrev cJ5_append_c97b9 : ByteArray := prog_13_method_32_code
def yJ5_append_c97b9 : MethodName := ⟨RJ5, "append", "(I)Ljava/lang/AbstractStringBuilder;"⟩
abbrev cJ5_getValue_6d5f1 : ByteArray := prog_13_method_64_code
def yJ5_getValue_6d5f1 : MethodName := ⟨RJ5, "getValue", "()[B"⟩
abbrev cJ5_isLatin1_aae02 : ByteArray := prog_13_method_68_code
def yJ5_isLatin1_aae02 : MethodName := ⟨RJ5, "isLatin1", "()Z"⟩
abbrev cJ5_inflateIfNeededFor_a7421 : ByteArray := prog_13_method_71_code
def yJ5_inflateIfNeededFor_a7421 : MethodName := ⟨RJ5, "inflateIfNeededFor", "(Ljava/lang/String;)V"⟩
abbrev cJ5_putStringAt_47b60 : ByteArray := prog_13_method_73_code
def yJ5_putStringAt_47b60 : MethodName := ⟨RJ5, "putStringAt", "(ILjava/lang/String;)V"⟩
def RJx2cfe8 : String := "java/lang/Appendable"
def TJx2cfe8 : u_T := fun k => match k with
  | _ => ("", "", "", false)
def tyJx2cfe8 : Nat → FieldType := fun k => match k with
  | _ => .int
theorem nmJx2cfe8 : ∀ a, a < 0 → ∀ b, b < 0 → a ≠ b → (TJx2cfe8 a).2.1 ≠ (TJx2cfe8 b).2.1 := by decide +kernel
theorem tyJx2cfe8_ok : ∀ k, k < 0 → parseFieldDescriptor (TJx2cfe8 k).2.2.1 = some (tyJx2cfe8 k) := by decide +kernel
def RJx9f9b0 : String := "java/lang/CharSequence"
def TJx9f9b0 : u_T := fun k => match k with
  | _ => ("", "", "", false)
def tyJx9f9b0 : Nat → FieldType := fun k => match k with
  | _ => .int
theorem nmJx9f9b0 : ∀ a, a < 0 → ∀ b, b < 0 → a ≠ b → (TJx9f9b0 a).2.1 ≠ (TJx9f9b0 b).2.1 := by decide +kernel
theorem tyJx9f9b0_ok : ∀ k, k < 0 → parseFieldDescriptor (TJx9f9b0 k).2.2.1 = some (tyJx9f9b0 k) := by decide +kernel
def RJx8e188 : String := "java/lang/Cloneable"
def TJx8e188 : u_T := fun k => match k with
  | _ => ("", "", "", false)
def tyJx8e188 : Nat → FieldType := fun k => match k with
  | _ => .int
theorem nmJx8e188 : ∀ a, a < 0 → ∀ b, b < 0 → a ≠ b → (TJx8e188 a).2.1 ≠ (TJx8e188 b).2.1 := by decide +kernel
theorem tyJx8e188_ok : ∀ k, k < 0 → parseFieldDescriptor (TJx8e188 k).2.2.1 = some (tyJx8e188 k) := by decide +kernel
def RJxb160c : String := "java/lang/Comparable"
def TJxb160c : u_T := fun k => match k with
  | _ => ("", "", "", false)
def tyJxb160c : Nat → FieldType := fun k => match k with
  | _ => .int
theorem nmJxb160c : ∀ a, a < 0 → ∀ b, b < 0 → a ≠ b → (TJxb160c a).2.1 ≠ (TJxb160c b).2.1 := by decide +kernel
theorem tyJxb160c_ok : ∀ k, k < 0 → parseFieldDescriptor (TJxb160c k).2.2.1 = some (tyJxb160c k) := by decide +kernel
def RJ6 : String := "java/lang/Integer"
def TJ6 : u_T := fun k => match k with
  | _ => ("", "", "", false)
def tyJ6 : Nat → FieldType := fun k => match k with
  | _ => .int
theorem nmJ6 : ∀ a, a < 0 → ∀ b, b < 0 → a ≠ b → (TJ6 a).2.1 ≠ (TJ6 b).2.1 := by decide +kernel
theorem tyJ6_ok : ∀ k, k < 0 → parseFieldDescriptor (TJ6 k).2.2.1 = some (tyJ6 k) := by decide +kernel
abbrev cJ6_getChars_ba4f3 : ByteArray := prog_22_method_12_code
def yJ6_getChars_ba4f3 : MethodName := ⟨RJ6, "getChars", "(II[B)I"⟩
abbrev cJ6_stringSize_0f7a4 : ByteArray := prog_22_method_13_code
def yJ6_stringSize_0f7a4 : MethodName := ⟨RJ6, "stringSize", "(I)I"⟩
abbrev cJ6_bitCount_0f7a4 : ByteArray := prog_22_method_49_code
def yJ6_bitCount_0f7a4 : MethodName := ⟨RJ6, "bitCount", "(I)I"⟩
def RJxab1ab : String := "java/lang/Iterable"
def TJxab1ab : u_T := fun k => match k with
  | _ => ("", "", "", false)
def tyJxab1ab : Nat → FieldType := fun k => match k with
  | _ => .int
theorem nmJxab1ab : ∀ a, a < 0 → ∀ b, b < 0 → a ≠ b → (TJxab1ab a).2.1 ≠ (TJxab1ab b).2.1 := by decide +kernel
theorem tyJxab1ab_ok : ∀ k, k < 0 → parseFieldDescriptor (TJxab1ab k).2.2.1 = some (tyJxab1ab k) := by decide +kernel
def RJ9 : String := "java/lang/Math"
def TJ9 : u_T := fun k => match k with
  | _ => ("", "", "", false)
def tyJ9 : Nat → FieldType := fun k => match k with
  | _ => .int
theorem nmJ9 : ∀ a, a < 0 → ∀ b, b < 0 → a ≠ b → (TJ9 a).2.1 ≠ (TJ9 b).2.1 := by decide +kernel
theorem tyJ9_ok : ∀ k, k < 0 → parseFieldDescriptor (TJ9 k).2.2.1 = some (tyJ9 k) := by decide +kernel
abbrev cJ9_max_7cf53 : ByteArray := prog_24_method_65_code
def yJ9_max_7cf53 : MethodName := ⟨RJ9, "max", "(II)I"⟩
abbrev cJ9_min_7cf53 : ByteArray := prog_24_method_69_code
def yJ9_min_7cf53 : MethodName := ⟨RJ9, "min", "(II)I"⟩
def RJxd2413 : String := "java/lang/Number"
def TJxd2413 : u_T := fun k => match k with
  | _ => ("", "", "", false)
def tyJxd2413 : Nat → FieldType := fun k => match k with
  | _ => .int
theorem nmJxd2413 : ∀ a, a < 0 → ∀ b, b < 0 → a ≠ b → (TJxd2413 a).2.1 ≠ (TJxd2413 b).2.1 := by decide +kernel
theorem tyJxd2413_ok : ∀ k, k < 0 → parseFieldDescriptor (TJxd2413 k).2.2.1 = some (tyJxd2413 k) := by decide +kernel
def RJ0 : String := "java/lang/String"
def TJ0 : u_T := fun k => match k with
  | 0 => ("java/lang/String", "value", "[B", true)
  | 1 => ("java/lang/String", "coder", "B", true)
  | 2 => ("java/lang/String", "hash", "I", false)
  | _ => ("java/lang/String", "hashIsZero", "Z", false)
def tyJ0 : Nat → FieldType := fun k => match k with
  | 0 => .array .byte
  | 1 => .byte
  | 2 => .int
  | _ => .boolean
theorem nmJ0 : ∀ a, a < 4 → ∀ b, b < 4 → a ≠ b → (TJ0 a).2.1 ≠ (TJ0 b).2.1 := by decide +kernel
theorem tyJ0_ok : ∀ k, k < 4 → parseFieldDescriptor (TJ0 k).2.2.1 = some (tyJ0 k) := by decide +kernel
abbrev cJ0_init_81219 : ByteArray := prog_27_method_53_code
def yJ0_init_81219 : MethodName := ⟨RJ0, "<init>", "(Ljava/lang/StringBuilder;)V"⟩
abbrev cJ0_length_8abf5 : ByteArray := prog_27_method_54_code
def yJ0_length_8abf5 : MethodName := ⟨RJ0, "length", "()I"⟩
abbrev cJ0_isEmpty_aae02 : ByteArray := prog_27_method_55_code
def yJ0_isEmpty_aae02 : MethodName := ⟨RJ0, "isEmpty", "()Z"⟩
abbrev cJ0_charAt_5068e : ByteArray := prog_27_method_56_code
def yJ0_charAt_5068e : MethodName := ⟨RJ0, "charAt", "(I)C"⟩
abbrev cJ0_getBytes_840e7 : ByteArray := prog_27_method_147_code
def yJ0_getBytes_840e7 : MethodName := ⟨RJ0, "getBytes", "([BIB)V"⟩
abbrev cJ0_init_db425 : ByteArray := prog_27_method_150_code
def yJ0_init_db425 : MethodName := ⟨RJ0, "<init>", "(Ljava/lang/AbstractStringBuilder;Ljava/lang/Void;)V"⟩
abbrev cJ0_coder_7d493 : ByteArray := prog_27_method_152_code
def yJ0_coder_7d493 : MethodName := ⟨RJ0, "coder", "()B"⟩
abbrev cJ0_isLatin1_aae02 : ByteArray := prog_27_method_154_code
def yJ0_isLatin1_aae02 : MethodName := ⟨RJ0, "isLatin1", "()Z"⟩
abbrev cJ0_checkIndex_df160 : ByteArray := prog_27_method_155_code
def yJ0_checkIndex_df160 : MethodName := ⟨RJ0, "checkIndex", "(II)V"⟩
abbrev cJ0_checkBoundsOffCount_cabcc : ByteArray := prog_27_method_157_code
def yJ0_checkBoundsOffCount_cabcc : MethodName := ⟨RJ0, "checkBoundsOffCount", "(III)I"⟩
abbrev cJ0_checkBoundsBeginEnd_23922 : ByteArray := prog_27_method_158_code
def yJ0_checkBoundsBeginEnd_23922 : MethodName := ⟨RJ0, "checkBoundsBeginEnd", "(III)V"⟩
def RJ4 : String := "java/lang/StringBuilder"
def TJ4 : u_T := fun k => match k with
  | 0 => ("java/lang/AbstractStringBuilder", "value", "[B", false)
  | 1 => ("java/lang/AbstractStringBuilder", "coder", "B", false)
  | 2 => ("java/lang/AbstractStringBuilder", "maybeLatin1", "Z", false)
  | _ => ("java/lang/AbstractStringBuilder", "count", "I", false)
def tyJ4 : Nat → FieldType := fun k => match k with
  | 0 => .array .byte
  | 1 => .byte
  | 2 => .boolean
  | _ => .int
theorem nmJ4 : ∀ a, a < 4 → ∀ b, b < 4 → a ≠ b → (TJ4 a).2.1 ≠ (TJ4 b).2.1 := by decide +kernel
theorem tyJ4_ok : ∀ k, k < 4 → parseFieldDescriptor (TJ4 k).2.2.1 = some (tyJ4 k) := by decide +kernel
abbrev cJ4_init_da8c8 : ByteArray := prog_28_method_1_code
def yJ4_init_da8c8 : MethodName := ⟨RJ4, "<init>", "()V"⟩
abbrev cJ4_append_15ec4 : ByteArray := prog_28_method_7_code
def yJ4_append_15ec4 : MethodName := ⟨RJ4, "append", "(Ljava/lang/String;)Ljava/lang/StringBuilder;"⟩
abbrev cJ4_append_cf468 : ByteArray := prog_28_method_14_code
def yJ4_append_cf468 : MethodName := ⟨RJ4, "append", "(C)Ljava/lang/StringBuilder;"⟩
abbrev cJ4_append_bf812 : ByteArray := prog_28_method_15_code
def yJ4_append_bf812 : MethodName := ⟨RJ4, "append", "(I)Ljava/lang/StringBuilder;"⟩
abbrev cJ4_toString_0e30d : ByteArray := prog_28_method_42_code
def yJ4_toString_0e30d : MethodName := ⟨RJ4, "toString", "()Ljava/lang/String;"⟩
abbrev cJ4_length_8abf5 : ByteArray := prog_28_method_93_code
def yJ4_length_8abf5 : MethodName := ⟨RJ4, "length", "()I"⟩
def RJ1 : String := "java/lang/StringLatin1"
def TJ1 : u_T := fun k => match k with
  | _ => ("", "", "", false)
def tyJ1 : Nat → FieldType := fun k => match k with
  | _ => .int
theorem nmJ1 : ∀ a, a < 0 → ∀ b, b < 0 → a ≠ b → (TJ1 a).2.1 ≠ (TJ1 b).2.1 := by decide +kernel
theorem tyJ1_ok : ∀ k, k < 0 → parseFieldDescriptor (TJ1 k).2.2.1 = some (tyJ1 k) := by decide +kernel
abbrev cJ1_charAt_3b067 : ByteArray := prog_29_method_2_code
def yJ1_charAt_3b067 : MethodName := ⟨RJ1, "charAt", "([BI)C"⟩
abbrev cJ1_canEncode_fc78d : ByteArray := prog_29_method_3_code
def yJ1_canEncode_fc78d : MethodName := ⟨RJ1, "canEncode", "(C)Z"⟩
abbrev cJ1_inflate_0e8fd : ByteArray := prog_29_method_50_code
def yJ1_inflate_0e8fd : MethodName := ⟨RJ1, "inflate", "([BI[BII)V"⟩
def RJ2 : String := "java/lang/StringUTF16"
def TJ2 : u_T := fun k => match k with
  | _ => ("", "", "", false)
def tyJ2 : Nat → FieldType := fun k => match k with
  | _ => .int
theorem nmJ2 : ∀ a, a < 0 → ∀ b, b < 0 → a ≠ b → (TJ2 a).2.1 ≠ (TJ2 b).2.1 := by decide +kernel
theorem tyJ2_ok : ∀ k, k < 0 → parseFieldDescriptor (TJ2 k).2.2.1 = some (tyJ2 k) := by decide +kernel
abbrev cJ2_newBytesFor_77867 : ByteArray := prog_30_method_2_code
def yJ2_newBytesFor_77867 : MethodName := ⟨RJ2, "newBytesFor", "(I)[B"⟩
abbrev cJ2_newBytesLength_0f7a4 : ByteArray := prog_30_method_3_code
def yJ2_newBytesLength_0f7a4 : MethodName := ⟨RJ2, "newBytesLength", "(I)I"⟩
abbrev cJ2_putChar_b72d1 : ByteArray := prog_30_method_4_code
def yJ2_putChar_b72d1 : MethodName := ⟨RJ2, "putChar", "([BII)V"⟩
abbrev cJ2_getChar_3b067 : ByteArray := prog_30_method_5_code
def yJ2_getChar_3b067 : MethodName := ⟨RJ2, "getChar", "([BI)C"⟩
abbrev cJ2_length_9d52b : ByteArray := prog_30_method_6_code
def yJ2_length_9d52b : MethodName := ⟨RJ2, "length", "([B)I"⟩
abbrev cJ2_coderFromArrayLen_85cad : ByteArray := prog_30_method_15_code
def yJ2_coderFromArrayLen_85cad : MethodName := ⟨RJ2, "coderFromArrayLen", "([BI)B"⟩
abbrev cJ2_compress_39247 : ByteArray := prog_30_method_17_code
def yJ2_compress_39247 : MethodName := ⟨RJ2, "compress", "([BII)[B"⟩
abbrev cJ2_compress_5af95 : ByteArray := prog_30_method_22_code
def yJ2_compress_5af95 : MethodName := ⟨RJ2, "compress", "([BI[BII)I"⟩
abbrev cJ2_putCharSB_b72d1 : ByteArray := prog_30_method_71_code
def yJ2_putCharSB_b72d1 : MethodName := ⟨RJ2, "putCharSB", "([BII)V"⟩
abbrev cJ2_getChars_46870 : ByteArray := prog_30_method_77_code
def yJ2_getChars_46870 : MethodName := ⟨RJ2, "getChars", "(III[B)I"⟩
abbrev cJ2_putCharsAt_cd4e5 : ByteArray := prog_30_method_81_code
def yJ2_putCharsAt_cd4e5 : MethodName := ⟨RJ2, "putCharsAt", "([BICCCC)I"⟩
abbrev cJ2_charAt_3b067 : ByteArray := prog_30_method_83_code
def yJ2_charAt_3b067 : MethodName := ⟨RJ2, "charAt", "([BI)C"⟩
abbrev cJ2_inflate_0e8fd : ByteArray := prog_30_method_86_code
def yJ2_inflate_0e8fd : MethodName := ⟨RJ2, "inflate", "([BI[BII)V"⟩
abbrev cJ2_getChars_ba4f3 : ByteArray := prog_30_method_89_code
def yJ2_getChars_ba4f3 : MethodName := ⟨RJ2, "getChars", "(II[B)I"⟩
abbrev cJ2_checkIndex_2214a : ByteArray := prog_30_method_91_code
def yJ2_checkIndex_2214a : MethodName := ⟨RJ2, "checkIndex", "(I[B)V"⟩
abbrev cJ2_checkBoundsBeginEnd_d044e : ByteArray := prog_30_method_93_code
def yJ2_checkBoundsBeginEnd_d044e : MethodName := ⟨RJ2, "checkBoundsBeginEnd", "(II[B)V"⟩
abbrev cJ2_checkBoundsOffCount_d044e : ByteArray := prog_30_method_94_code
def yJ2_checkBoundsOffCount_d044e : MethodName := ⟨RJ2, "checkBoundsOffCount", "(II[B)V"⟩
def RJ10 : String := "java/lang/System"
def TJ10 : u_T := fun k => match k with
  | _ => ("", "", "", false)
def tyJ10 : Nat → FieldType := fun k => match k with
  | _ => .int
theorem nmJ10 : ∀ a, a < 0 → ∀ b, b < 0 → a ≠ b → (TJ10 a).2.1 ≠ (TJ10 b).2.1 := by decide +kernel
theorem tyJ10_ok : ∀ k, k < 0 → parseFieldDescriptor (TJ10 k).2.2.1 = some (tyJ10 k) := by decide +kernel
def RJxfd54e : String := "java/lang/constant/Constable"
def TJxfd54e : u_T := fun k => match k with
  | _ => ("", "", "", false)
def tyJxfd54e : Nat → FieldType := fun k => match k with
  | _ => .int
theorem nmJxfd54e : ∀ a, a < 0 → ∀ b, b < 0 → a ≠ b → (TJxfd54e a).2.1 ≠ (TJxfd54e b).2.1 := by decide +kernel
theorem tyJxfd54e_ok : ∀ k, k < 0 → parseFieldDescriptor (TJxfd54e k).2.2.1 = some (tyJxfd54e k) := by decide +kernel
def RJx3cf43 : String := "java/lang/constant/ConstantDesc"
def TJx3cf43 : u_T := fun k => match k with
  | _ => ("", "", "", false)
def tyJx3cf43 : Nat → FieldType := fun k => match k with
  | _ => .int
theorem nmJx3cf43 : ∀ a, a < 0 → ∀ b, b < 0 → a ≠ b → (TJx3cf43 a).2.1 ≠ (TJx3cf43 b).2.1 := by decide +kernel
theorem tyJx3cf43_ok : ∀ k, k < 0 → parseFieldDescriptor (TJx3cf43 k).2.2.1 = some (tyJx3cf43 k) := by decide +kernel
def RJxa1e45 : String := "java/util/AbstractCollection"
def TJxa1e45 : u_T := fun k => match k with
  | _ => ("", "", "", false)
def tyJxa1e45 : Nat → FieldType := fun k => match k with
  | _ => .int
theorem nmJxa1e45 : ∀ a, a < 0 → ∀ b, b < 0 → a ≠ b → (TJxa1e45 a).2.1 ≠ (TJxa1e45 b).2.1 := by decide +kernel
theorem tyJxa1e45_ok : ∀ k, k < 0 → parseFieldDescriptor (TJxa1e45 k).2.2.1 = some (tyJxa1e45 k) := by decide +kernel
abbrev cJxa1e45_init_da8c8 : ByteArray := prog_35_method_1_code
def yJxa1e45_init_da8c8 : MethodName := ⟨RJxa1e45, "<init>", "()V"⟩
def RJxc12de : String := "java/util/AbstractList"
def TJxc12de : u_T := fun k => match k with
  | _ => ("", "", "", false)
def tyJxc12de : Nat → FieldType := fun k => match k with
  | _ => .int
theorem nmJxc12de : ∀ a, a < 0 → ∀ b, b < 0 → a ≠ b → (TJxc12de a).2.1 ≠ (TJxc12de b).2.1 := by decide +kernel
theorem tyJxc12de_ok : ∀ k, k < 0 → parseFieldDescriptor (TJxc12de k).2.2.1 = some (tyJxc12de k) := by decide +kernel
abbrev cJxc12de_init_da8c8 : ByteArray := prog_36_method_1_code
def yJxc12de_init_da8c8 : MethodName := ⟨RJxc12de, "<init>", "()V"⟩
def RJx35411 : String := "java/util/ArrayList$Itr"
def TJx35411 : u_T := fun k => match k with
  | 0 => ("java/util/ArrayList$Itr", "cursor", "I", false)
  | 1 => ("java/util/ArrayList$Itr", "lastRet", "I", false)
  | 2 => ("java/util/ArrayList$Itr", "expectedModCount", "I", false)
  | _ => ("java/util/ArrayList$Itr", "this$0", "Ljava/util/ArrayList;", true)
def tyJx35411 : Nat → FieldType := fun k => match k with
  | 0 => .int
  | 1 => .int
  | 2 => .int
  | _ => .object "java/util/ArrayList"
theorem nmJx35411 : ∀ a, a < 4 → ∀ b, b < 4 → a ≠ b → (TJx35411 a).2.1 ≠ (TJx35411 b).2.1 := by decide +kernel
theorem tyJx35411_ok : ∀ k, k < 4 → parseFieldDescriptor (TJx35411 k).2.2.1 = some (tyJx35411 k) := by decide +kernel
abbrev cJx35411_init_45d68 : ByteArray := prog_38_method_1_code
def yJx35411_init_45d68 : MethodName := ⟨RJx35411, "<init>", "(Ljava/util/ArrayList;)V"⟩
abbrev cJx35411_hasNext_aae02 : ByteArray := prog_38_method_2_code
def yJx35411_hasNext_aae02 : MethodName := ⟨RJx35411, "hasNext", "()Z"⟩
abbrev cJx35411_next_0502b : ByteArray := prog_38_method_3_code
def yJx35411_next_0502b : MethodName := ⟨RJx35411, "next", "()Ljava/lang/Object;"⟩
abbrev cJx35411_checkForComodification_da8c8 : ByteArray := prog_38_method_6_code
def yJx35411_checkForComodification_da8c8 : MethodName := ⟨RJx35411, "checkForComodification", "()V"⟩
def RJx4a65c : String := "java/util/ArrayList"
def TJx4a65c : u_T := fun k => match k with
  | 0 => ("java/util/AbstractList", "modCount", "I", false)
  | 1 => ("java/util/ArrayList", "elementData", "[Ljava/lang/Object;", false)
  | _ => ("java/util/ArrayList", "size", "I", false)
def tyJx4a65c : Nat → FieldType := fun k => match k with
  | 0 => .int
  | 1 => .array (.object "java/lang/Object")
  | _ => .int
theorem nmJx4a65c : ∀ a, a < 3 → ∀ b, b < 3 → a ≠ b → (TJx4a65c a).2.1 ≠ (TJx4a65c b).2.1 := by decide +kernel
theorem tyJx4a65c_ok : ∀ k, k < 3 → parseFieldDescriptor (TJx4a65c k).2.2.1 = some (tyJx4a65c k) := by decide +kernel
abbrev cJx4a65c_init_da8c8 : ByteArray := prog_37_method_2_code
def yJx4a65c_init_da8c8 : MethodName := ⟨RJx4a65c, "<init>", "()V"⟩
abbrev cJx4a65c_grow_92f84 : ByteArray := prog_37_method_6_code
def yJx4a65c_grow_92f84 : MethodName := ⟨RJx4a65c, "grow", "(I)[Ljava/lang/Object;"⟩
abbrev cJx4a65c_grow_d5877 : ByteArray := prog_37_method_7_code
def yJx4a65c_grow_d5877 : MethodName := ⟨RJx4a65c, "grow", "()[Ljava/lang/Object;"⟩
abbrev cJx4a65c_size_8abf5 : ByteArray := prog_37_method_8_code
def yJx4a65c_size_8abf5 : MethodName := ⟨RJx4a65c, "size", "()I"⟩
abbrev cJx4a65c_isEmpty_aae02 : ByteArray := prog_37_method_9_code
def yJx4a65c_isEmpty_aae02 : MethodName := ⟨RJx4a65c, "isEmpty", "()Z"⟩
abbrev cJx4a65c_elementData_915e3 : ByteArray := prog_37_method_18_code
def yJx4a65c_elementData_915e3 : MethodName := ⟨RJx4a65c, "elementData", "(I)Ljava/lang/Object;"⟩
abbrev cJx4a65c_get_915e3 : ByteArray := prog_37_method_20_code
def yJx4a65c_get_915e3 : MethodName := ⟨RJx4a65c, "get", "(I)Ljava/lang/Object;"⟩
abbrev cJx4a65c_add_72be8 : ByteArray := prog_37_method_24_code
def yJx4a65c_add_72be8 : MethodName := ⟨RJx4a65c, "add", "(Ljava/lang/Object;[Ljava/lang/Object;I)V"⟩
abbrev cJx4a65c_add_9ea2d : ByteArray := prog_37_method_25_code
def yJx4a65c_add_9ea2d : MethodName := ⟨RJx4a65c, "add", "(Ljava/lang/Object;)Z"⟩
abbrev cJx4a65c_iterator_32c93 : ByteArray := prog_37_method_55_code
def yJx4a65c_iterator_32c93 : MethodName := ⟨RJx4a65c, "iterator", "()Ljava/util/Iterator;"⟩
def RJ7 : String := "java/util/Arrays"
def TJ7 : u_T := fun k => match k with
  | _ => ("", "", "", false)
def tyJ7 : Nat → FieldType := fun k => match k with
  | _ => .int
theorem nmJ7 : ∀ a, a < 0 → ∀ b, b < 0 → a ≠ b → (TJ7 a).2.1 ≠ (TJ7 b).2.1 := by decide +kernel
theorem tyJ7_ok : ∀ k, k < 0 → parseFieldDescriptor (TJ7 k).2.2.1 = some (tyJ7 k) := by decide +kernel
abbrev cJ7_fill_53178 : ByteArray := prog_39_method_103_code
def yJ7_fill_53178 : MethodName := ⟨RJ7, "fill", "([II)V"⟩
abbrev cJ7_copyOf_1904c : ByteArray := prog_39_method_119_code
def yJ7_copyOf_1904c : MethodName := ⟨RJ7, "copyOf", "([Ljava/lang/Object;I)[Ljava/lang/Object;"⟩
abbrev cJ7_copyOf_6403c : ByteArray := prog_39_method_120_code
def yJ7_copyOf_6403c : MethodName := ⟨RJ7, "copyOf", "([Ljava/lang/Object;ILjava/lang/Class;)[Ljava/lang/Object;"⟩
abbrev cJ7_copyOf_9075b : ByteArray := prog_39_method_121_code
def yJ7_copyOf_9075b : MethodName := ⟨RJ7, "copyOf", "([BI)[B"⟩
abbrev cJ7_checkLength_df160 : ByteArray := prog_39_method_131_code
def yJ7_checkLength_df160 : MethodName := ⟨RJ7, "checkLength", "(II)V"⟩
abbrev cJ7_copyOfRange_39247 : ByteArray := prog_39_method_132_code
def yJ7_copyOfRange_39247 : MethodName := ⟨RJ7, "copyOfRange", "([BII)[B"⟩
abbrev cJ7_copyOfRangeByte_39247 : ByteArray := prog_39_method_133_code
def yJ7_copyOfRangeByte_39247 : MethodName := ⟨RJ7, "copyOfRangeByte", "([BII)[B"⟩
def RJx5ef63 : String := "java/util/Collection"
def TJx5ef63 : u_T := fun k => match k with
  | _ => ("", "", "", false)
def tyJx5ef63 : Nat → FieldType := fun k => match k with
  | _ => .int
theorem nmJx5ef63 : ∀ a, a < 0 → ∀ b, b < 0 → a ≠ b → (TJx5ef63 a).2.1 ≠ (TJx5ef63 b).2.1 := by decide +kernel
theorem tyJx5ef63_ok : ∀ k, k < 0 → parseFieldDescriptor (TJx5ef63 k).2.2.1 = some (tyJx5ef63 k) := by decide +kernel
def RJx4d0d8 : String := "java/util/Iterator"
def TJx4d0d8 : u_T := fun k => match k with
  | _ => ("", "", "", false)
def tyJx4d0d8 : Nat → FieldType := fun k => match k with
  | _ => .int
theorem nmJx4d0d8 : ∀ a, a < 0 → ∀ b, b < 0 → a ≠ b → (TJx4d0d8 a).2.1 ≠ (TJx4d0d8 b).2.1 := by decide +kernel
theorem tyJx4d0d8_ok : ∀ k, k < 0 → parseFieldDescriptor (TJx4d0d8 k).2.2.1 = some (tyJx4d0d8 k) := by decide +kernel
def RJxbd725 : String := "java/util/List"
def TJxbd725 : u_T := fun k => match k with
  | _ => ("", "", "", false)
def tyJxbd725 : Nat → FieldType := fun k => match k with
  | _ => .int
theorem nmJxbd725 : ∀ a, a < 0 → ∀ b, b < 0 → a ≠ b → (TJxbd725 a).2.1 ≠ (TJxbd725 b).2.1 := by decide +kernel
theorem tyJxbd725_ok : ∀ k, k < 0 → parseFieldDescriptor (TJxbd725 k).2.2.1 = some (tyJxbd725 k) := by decide +kernel
def RJ15 : String := "java/util/Objects"
def TJ15 : u_T := fun k => match k with
  | _ => ("", "", "", false)
def tyJ15 : Nat → FieldType := fun k => match k with
  | _ => .int
theorem nmJ15 : ∀ a, a < 0 → ∀ b, b < 0 → a ≠ b → (TJ15 a).2.1 ≠ (TJ15 b).2.1 := by decide +kernel
theorem tyJ15_ok : ∀ k, k < 0 → parseFieldDescriptor (TJ15 k).2.2.1 = some (tyJ15 k) := by decide +kernel
abbrev cJ15_checkIndex_7cf53 : ByteArray := prog_43_method_17_code
def yJ15_checkIndex_7cf53 : MethodName := ⟨RJ15, "checkIndex", "(II)I"⟩
def RJxf0a74 : String := "java/util/RandomAccess"
def TJxf0a74 : u_T := fun k => match k with
  | _ => ("", "", "", false)
def tyJxf0a74 : Nat → FieldType := fun k => match k with
  | _ => .int
theorem nmJxf0a74 : ∀ a, a < 0 → ∀ b, b < 0 → a ≠ b → (TJxf0a74 a).2.1 ≠ (TJxf0a74 b).2.1 := by decide +kernel
theorem tyJxf0a74_ok : ∀ k, k < 0 → parseFieldDescriptor (TJxf0a74 k).2.2.1 = some (tyJxf0a74 k) := by decide +kernel
def RJxa66e6 : String := "java/util/SequencedCollection"
def TJxa66e6 : u_T := fun k => match k with
  | _ => ("", "", "", false)
def tyJxa66e6 : Nat → FieldType := fun k => match k with
  | _ => .int
theorem nmJxa66e6 : ∀ a, a < 0 → ∀ b, b < 0 → a ≠ b → (TJxa66e6 a).2.1 ≠ (TJxa66e6 b).2.1 := by decide +kernel
theorem tyJxa66e6_ok : ∀ k, k < 0 → parseFieldDescriptor (TJxa66e6 k).2.2.1 = some (tyJxa66e6 k) := by decide +kernel
def RJ8 : String := "jdk/internal/util/ArraysSupport"
def TJ8 : u_T := fun k => match k with
  | _ => ("", "", "", false)
def tyJ8 : Nat → FieldType := fun k => match k with
  | _ => .int
theorem nmJ8 : ∀ a, a < 0 → ∀ b, b < 0 → a ≠ b → (TJ8 a).2.1 ≠ (TJ8 b).2.1 := by decide +kernel
theorem tyJ8_ok : ∀ k, k < 0 → parseFieldDescriptor (TJ8 k).2.2.1 = some (tyJ8 k) := by decide +kernel
abbrev cJ8_newLength_cabcc : ByteArray := prog_46_method_27_code
def yJ8_newLength_cabcc : MethodName := ⟨RJ8, "newLength", "(III)I"⟩
abbrev cJ8_hugeLength_7cf53 : ByteArray := prog_46_method_28_code
def yJ8_hugeLength_7cf53 : MethodName := ⟨RJ8, "hugeLength", "(II)I"⟩
def RJ3 : String := "jdk/internal/util/Preconditions"
def TJ3 : u_T := fun k => match k with
  | _ => ("", "", "", false)
def tyJ3 : Nat → FieldType := fun k => match k with
  | _ => .int
theorem nmJ3 : ∀ a, a < 0 → ∀ b, b < 0 → a ≠ b → (TJ3 a).2.1 ≠ (TJ3 b).2.1 := by decide +kernel
theorem tyJ3_ok : ∀ k, k < 0 → parseFieldDescriptor (TJ3 k).2.2.1 = some (tyJ3 k) := by decide +kernel
abbrev cJ3_checkIndex_8e157 : ByteArray := prog_47_method_11_code
def yJ3_checkIndex_8e157 : MethodName := ⟨RJ3, "checkIndex", "(IILjava/util/function/BiFunction;)I"⟩
abbrev cJ3_checkFromToIndex_8c36e : ByteArray := prog_47_method_12_code
def yJ3_checkFromToIndex_8c36e : MethodName := ⟨RJ3, "checkFromToIndex", "(IIILjava/util/function/BiFunction;)I"⟩
abbrev cJ3_checkFromIndexSize_8c36e : ByteArray := prog_47_method_13_code
def yJ3_checkFromIndexSize_8c36e : MethodName := ⟨RJ3, "checkFromIndexSize", "(IIILjava/util/function/BiFunction;)I"⟩
def RL : String := "RadioBeaconsLaw"
abbrev cL_cell : ByteArray := method_2_code
def yL_cell : MethodName := ⟨RL, "cell", "([II)I"⟩
abbrev cL_pick : ByteArray := method_3_code
def yL_pick : MethodName := ⟨RL, "pick", "([III)I"⟩
abbrev cL_feeds : ByteArray := method_4_code
def yL_feeds : MethodName := ⟨RL, "feeds", "(LRadioBeacons;Ljava/lang/String;)Z"⟩
abbrev cL_alike : ByteArray := method_5_code
def yL_alike : MethodName := ⟨RL, "alike", "(LRadioBeacons;LRadioBeaconsLaw$World;)Z"⟩
abbrev cL_acts : ByteArray := method_6_code
def yL_acts : MethodName := ⟨RL, "acts", "(LRadioBeacons;LRadioBeaconsLaw$World;[II)Z"⟩
abbrev cL_holds : ByteArray := method_7_code
def yL_holds : MethodName := ⟨RL, "holds", "(LRadioBeacons;)Z"⟩
abbrev cL_comes : ByteArray := method_8_code
def yL_comes : MethodName := ⟨RL, "comes", "(LRadioBeacons;LRadioBeaconsLaw$World;I)Z"⟩
abbrev cL_law : ByteArray := code
def yL_law : MethodName := ⟨RL, "law", "([I)Z"⟩
