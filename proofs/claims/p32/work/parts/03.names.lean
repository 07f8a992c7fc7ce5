def RX0 : String := "Pagerloom$Alarms"
def TX0 : u_T := fun k => match k with
  | 0 => ("Pagerloom$Alarms", "rules", "[I", true)
  | 1 => ("Pagerloom$Alarms", "hours", "[I", true)
  | 2 => ("Pagerloom$Alarms", "woken", "[I", true)
  | 3 => ("Pagerloom$Alarms", "wokenIn", "[I", true)
  | 4 => ("Pagerloom$Alarms", "isAnswered", "[Z", true)
  | 5 => ("Pagerloom$Alarms", "count", "I", false)
  | _ => ("Pagerloom$Alarms", "wokenCount", "I", false)
def tyX0 : Nat → FieldType := fun k => match k with
  | 0 => .array .int
  | 1 => .array .int
  | 2 => .array .int
  | 3 => .array .int
  | 4 => .array .boolean
  | 5 => .int
  | _ => .int
theorem nmX0 : ∀ a, a < 7 → ∀ b, b < 7 → a ≠ b → (TX0 a).2.1 ≠ (TX0 b).2.1 := by decide +kernel
theorem tyX0_ok : ∀ k, k < 7 → parseFieldDescriptor (TX0 k).2.2.1 = some (tyX0 k) := by decide +kernel
abbrev cX0_init : ByteArray := prog_2_method_1_code
def yX0_init : MethodName := ⟨RX0, "<init>", "()V"⟩
abbrev cX0_has : ByteArray := prog_2_method_2_code
def yX0_has : MethodName := ⟨RX0, "has", "(I)Z"⟩
abbrev cX0_waits : ByteArray := prog_2_method_3_code
def yX0_waits : MethodName := ⟨RX0, "waits", "(I)Z"⟩
abbrev cX0_add : ByteArray := prog_2_method_4_code
def yX0_add : MethodName := ⟨RX0, "add", "(II)V"⟩
abbrev cX0_wakeAll : ByteArray := prog_2_method_5_code
def yX0_wakeAll : MethodName := ⟨RX0, "wakeAll", "(II)V"⟩
def RX1 : String := "Pagerloom$Coder"
def TX1 : u_T := fun k => match k with
  | 0 => ("Pagerloom$Coder", "codes", "[I", true)
  | 1 => ("Pagerloom$Coder", "size", "I", false)
  | 2 => ("Pagerloom$Coder", "pile", "[I", true)
  | 3 => ("Pagerloom$Coder", "starts", "[I", true)
  | 4 => ("Pagerloom$Coder", "high", "I", false)
  | _ => ("Pagerloom$Coder", "isBehindPart", "Z", false)
def tyX1 : Nat → FieldType := fun k => match k with
  | 0 => .array .int
  | 1 => .int
  | 2 => .array .int
  | 3 => .array .int
  | 4 => .int
  | _ => .boolean
theorem nmX1 : ∀ a, a < 6 → ∀ b, b < 6 → a ≠ b → (TX1 a).2.1 ≠ (TX1 b).2.1 := by decide +kernel
theorem tyX1_ok : ∀ k, k < 6 → parseFieldDescriptor (TX1 k).2.2.1 = some (tyX1 k) := by decide +kernel
abbrev cX1_init : ByteArray := prog_3_method_1_code
def yX1_init : MethodName := ⟨RX1, "<init>", "()V"⟩
abbrev cX1_turn : ByteArray := prog_3_method_2_code
def yX1_turn : MethodName := ⟨RX1, "turn", "([CI)V"⟩
abbrev cX1_turnPart : ByteArray := prog_3_method_3_code
def yX1_turnPart : MethodName := ⟨RX1, "turnPart", "([CII)I"⟩
abbrev cX1_turnNumber : ByteArray := prog_3_method_4_code
def yX1_turnNumber : MethodName := ⟨RX1, "turnNumber", "([CII)I"⟩
abbrev cX1_openAggregate : ByteArray := prog_3_method_5_code
def yX1_openAggregate : MethodName := ⟨RX1, "openAggregate", "([CII)I"⟩
abbrev cX1_close : ByteArray := prog_3_method_6_code
def yX1_close : MethodName := ⟨RX1, "close", "()V"⟩
abbrev cX1_turnSign : ByteArray := prog_3_method_7_code
def yX1_turnSign : MethodName := ⟨RX1, "turnSign", "(I)V"⟩
abbrev cX1_rankOf : ByteArray := prog_3_method_8_code
def yX1_rankOf : MethodName := ⟨RX1, "rankOf", "(I)I"⟩
abbrev cX1_settle : ByteArray := prog_3_method_9_code
def yX1_settle : MethodName := ⟨RX1, "settle", "(I)V"⟩
abbrev cX1_push : ByteArray := prog_3_method_10_code
def yX1_push : MethodName := ⟨RX1, "push", "(I)V"⟩
abbrev cX1_put : ByteArray := prog_3_method_11_code
def yX1_put : MethodName := ⟨RX1, "put", "(I)V"⟩
def RX2 : String := "Pagerloom$Logs"
def TX2 : u_T := fun k => match k with
  | 0 => ("Pagerloom$Logs", "parts", "[I", true)
  | 1 => ("Pagerloom$Logs", "levels", "[I", true)
  | 2 => ("Pagerloom$Logs", "values", "[I", true)
  | 3 => ("Pagerloom$Logs", "hours", "[I", true)
  | 4 => ("Pagerloom$Logs", "toldIn", "[I", true)
  | 5 => ("Pagerloom$Logs", "order", "[I", true)
  | 6 => ("Pagerloom$Logs", "ahead", "[I", true)
  | 7 => ("Pagerloom$Logs", "picked", "[I", true)
  | 8 => ("Pagerloom$Logs", "count", "I", false)
  | _ => ("Pagerloom$Logs", "picks", "I", false)
def tyX2 : Nat → FieldType := fun k => match k with
  | 0 => .array .int
  | 1 => .array .int
  | 2 => .array .int
  | 3 => .array .int
  | 4 => .array .int
  | 5 => .array .int
  | 6 => .array .int
  | 7 => .array .int
  | 8 => .int
  | _ => .int
theorem nmX2 : ∀ a, a < 10 → ∀ b, b < 10 → a ≠ b → (TX2 a).2.1 ≠ (TX2 b).2.1 := by decide +kernel
theorem tyX2_ok : ∀ k, k < 10 → parseFieldDescriptor (TX2 k).2.2.1 = some (tyX2 k) := by decide +kernel
abbrev cX2_init : ByteArray := prog_4_method_1_code
def yX2_init : MethodName := ⟨RX2, "<init>", "()V"⟩
abbrev cX2_add : ByteArray := prog_4_method_2_code
def yX2_add : MethodName := ⟨RX2, "add", "(IIIII)I"⟩
abbrev cX2_putInOrder : ByteArray := prog_4_method_3_code
def yX2_putInOrder : MethodName := ⟨RX2, "putInOrder", "(II)V"⟩
abbrev cX2_pick : ByteArray := prog_4_method_4_code
def yX2_pick : MethodName := ⟨RX2, "pick", "(III)V"⟩
abbrev cX2_fieldOf : ByteArray := prog_4_method_5_code
def yX2_fieldOf : MethodName := ⟨RX2, "fieldOf", "(II)I"⟩
def RX3 : String := "Pagerloom$Node"
def TX3 : u_T := fun k => match k with
  | 0 => ("Pagerloom$Node", "kind", "I", true)
  | 1 => ("Pagerloom$Node", "number", "I", true)
  | 2 => ("Pagerloom$Node", "left", "LPagerloom$Node;", true)
  | _ => ("Pagerloom$Node", "right", "LPagerloom$Node;", true)
def tyX3 : Nat → FieldType := fun k => match k with
  | 0 => .int
  | 1 => .int
  | 2 => .object "Pagerloom$Node"
  | _ => .object "Pagerloom$Node"
theorem nmX3 : ∀ a, a < 4 → ∀ b, b < 4 → a ≠ b → (TX3 a).2.1 ≠ (TX3 b).2.1 := by decide +kernel
theorem tyX3_ok : ∀ k, k < 4 → parseFieldDescriptor (TX3 k).2.2.1 = some (tyX3 k) := by decide +kernel
abbrev cX3_init : ByteArray := prog_5_method_1_code
def yX3_init : MethodName := ⟨RX3, "<init>", "(IILPagerloom$Node;LPagerloom$Node;)V"⟩
def RX4 : String := "Pagerloom$Reader"
def TX4 : u_T := fun k => match k with
  | 0 => ("Pagerloom$Reader", "text", "[C", false)
  | 1 => ("Pagerloom$Reader", "length", "I", false)
  | _ => ("Pagerloom$Reader", "at", "I", false)
def tyX4 : Nat → FieldType := fun k => match k with
  | 0 => .array .char
  | 1 => .int
  | _ => .int
theorem nmX4 : ∀ a, a < 3 → ∀ b, b < 3 → a ≠ b → (TX4 a).2.1 ≠ (TX4 b).2.1 := by decide +kernel
theorem tyX4_ok : ∀ k, k < 3 → parseFieldDescriptor (TX4 k).2.2.1 = some (tyX4 k) := by decide +kernel
abbrev cX4_init : ByteArray := prog_6_method_1_code
def yX4_init : MethodName := ⟨RX4, "<init>", "()V"⟩
abbrev cX4_read : ByteArray := prog_6_method_2_code
def yX4_read : MethodName := ⟨RX4, "read", "([CI)LPagerloom$Node;"⟩
abbrev cX4_place : ByteArray := prog_6_method_3_code
def yX4_place : MethodName := ⟨RX4, "place", "()I"⟩
abbrev cX4_here : ByteArray := prog_6_method_4_code
def yX4_here : MethodName := ⟨RX4, "here", "()I"⟩
abbrev cX4_readChain : ByteArray := prog_6_method_5_code
def yX4_readChain : MethodName := ⟨RX4, "readChain", "(II)LPagerloom$Node;"⟩
abbrev cX4_isSignOf : ByteArray := prog_6_method_6_code
def yX4_isSignOf : MethodName := ⟨RX4, "isSignOf", "(II)Z"⟩
abbrev cX4_readUnit : ByteArray := prog_6_method_7_code
def yX4_readUnit : MethodName := ⟨RX4, "readUnit", "(I)LPagerloom$Node;"⟩
abbrev cX4_readAggregate : ByteArray := prog_6_method_8_code
def yX4_readAggregate : MethodName := ⟨RX4, "readAggregate", "(I)LPagerloom$Node;"⟩
abbrev cX4_readTerm : ByteArray := prog_6_method_9_code
def yX4_readTerm : MethodName := ⟨RX4, "readTerm", "(I)LPagerloom$Node;"⟩
abbrev cX4_readComparison : ByteArray := prog_6_method_10_code
def yX4_readComparison : MethodName := ⟨RX4, "readComparison", "()LPagerloom$Node;"⟩
abbrev cX4_readField : ByteArray := prog_6_method_11_code
def yX4_readField : MethodName := ⟨RX4, "readField", "()LPagerloom$Node;"⟩
abbrev cX4_readNumber : ByteArray := prog_6_method_12_code
def yX4_readNumber : MethodName := ⟨RX4, "readNumber", "()LPagerloom$Node;"⟩
abbrev cX4_before : ByteArray := prog_6_method_13_code
def yX4_before : MethodName := ⟨RX4, "before", "(ILPagerloom$Node;)LPagerloom$Node;"⟩
abbrev cX4_closed : ByteArray := prog_6_method_14_code
def yX4_closed : MethodName := ⟨RX4, "closed", "(LPagerloom$Node;)LPagerloom$Node;"⟩
def RX5 : String := "Pagerloom$Rota"
def TX5 : u_T := fun k => match k with
  | 0 => ("Pagerloom$Rota", "people", "I", false)
  | 1 => ("Pagerloom$Rota", "swapped", "[I", true)
  | 2 => ("Pagerloom$Rota", "offs", "[I", true)
  | 3 => ("Pagerloom$Rota", "holders", "[I", true)
  | 4 => ("Pagerloom$Rota", "debtors", "[I", true)
  | 5 => ("Pagerloom$Rota", "creditors", "[I", true)
  | _ => ("Pagerloom$Rota", "debts", "I", false)
def tyX5 : Nat → FieldType := fun k => match k with
  | 0 => .int
  | 1 => .array .int
  | 2 => .array .int
  | 3 => .array .int
  | 4 => .array .int
  | 5 => .array .int
  | _ => .int
theorem nmX5 : ∀ a, a < 7 → ∀ b, b < 7 → a ≠ b → (TX5 a).2.1 ≠ (TX5 b).2.1 := by decide +kernel
theorem tyX5_ok : ∀ k, k < 7 → parseFieldDescriptor (TX5 k).2.2.1 = some (tyX5 k) := by decide +kernel
abbrev cX5_init : ByteArray := prog_7_method_1_code
def yX5_init : MethodName := ⟨RX5, "<init>", "()V"⟩
abbrev cX5_hasPerson : ByteArray := prog_7_method_2_code
def yX5_hasPerson : MethodName := ⟨RX5, "hasPerson", "(I)Z"⟩
abbrev cX5_turnOff : ByteArray := prog_7_method_3_code
def yX5_turnOff : MethodName := ⟨RX5, "turnOff", "(II)V"⟩
abbrev cX5_isOff : ByteArray := prog_7_method_4_code
def yX5_isOff : MethodName := ⟨RX5, "isOff", "(II)Z"⟩
abbrev cX5_give : ByteArray := prog_7_method_5_code
def yX5_give : MethodName := ⟨RX5, "give", "(II)V"⟩
abbrev cX5_plannedFor : ByteArray := prog_7_method_6_code
def yX5_plannedFor : MethodName := ⟨RX5, "plannedFor", "(I)I"⟩
abbrev cX5_holderToBe : ByteArray := prog_7_method_7_code
def yX5_holderToBe : MethodName := ⟨RX5, "holderToBe", "(I)I"⟩
abbrev cX5_debtPaidIn : ByteArray := prog_7_method_8_code
def yX5_debtPaidIn : MethodName := ⟨RX5, "debtPaidIn", "(I)I"⟩
abbrev cX5_begin : ByteArray := prog_7_method_9_code
def yX5_begin : MethodName := ⟨RX5, "begin", "(I)V"⟩
abbrev cX5_holderOf : ByteArray := prog_7_method_10_code
def yX5_holderOf : MethodName := ⟨RX5, "holderOf", "(I)I"⟩
abbrev cX5_nightsOf : ByteArray := prog_7_method_11_code
def yX5_nightsOf : MethodName := ⟨RX5, "nightsOf", "(I)I"⟩
abbrev cX5_debtsOf : ByteArray := prog_7_method_12_code
def yX5_debtsOf : MethodName := ⟨RX5, "debtsOf", "(II)I"⟩
abbrev cX5_addDebt : ByteArray := prog_7_method_13_code
def yX5_addDebt : MethodName := ⟨RX5, "addDebt", "(II)V"⟩
abbrev cX5_forgetDebt : ByteArray := prog_7_method_14_code
def yX5_forgetDebt : MethodName := ⟨RX5, "forgetDebt", "(I)V"⟩
def RX6 : String := "Pagerloom$Rule"
def TX6 : u_T := fun k => match k with
  | 0 => ("Pagerloom$Rule", "question", "LPagerloom$Node;", true)
  | 1 => ("Pagerloom$Rule", "owner", "I", true)
  | 2 => ("Pagerloom$Rule", "window", "I", true)
  | 3 => ("Pagerloom$Rule", "rest", "I", true)
  | 4 => ("Pagerloom$Rule", "madeIn", "I", true)
  | 5 => ("Pagerloom$Rule", "lastHour", "I", false)
  | 6 => ("Pagerloom$Rule", "silentFrom", "[I", true)
  | 7 => ("Pagerloom$Rule", "silentTo", "[I", true)
  | 8 => ("Pagerloom$Rule", "silences", "I", false)
  | 9 => ("Pagerloom$Rule", "riseCount", "I", false)
  | _ => ("Pagerloom$Rule", "lastRise", "I", false)
def tyX6 : Nat → FieldType := fun k => match k with
  | 0 => .object "Pagerloom$Node"
  | 1 => .int
  | 2 => .int
  | 3 => .int
  | 4 => .int
  | 5 => .int
  | 6 => .array .int
  | 7 => .array .int
  | 8 => .int
  | 9 => .int
  | _ => .int
theorem nmX6 : ∀ a, a < 11 → ∀ b, b < 11 → a ≠ b → (TX6 a).2.1 ≠ (TX6 b).2.1 := by decide +kernel
theorem tyX6_ok : ∀ k, k < 11 → parseFieldDescriptor (TX6 k).2.2.1 = some (tyX6 k) := by decide +kernel
abbrev cX6_init : ByteArray := prog_8_method_1_code
def yX6_init : MethodName := ⟨RX6, "<init>", "(LPagerloom$Node;IIII)V"⟩
abbrev cX6_isDropped : ByteArray := prog_8_method_2_code
def yX6_isDropped : MethodName := ⟨RX6, "isDropped", "()Z"⟩
abbrev cX6_hasRested : ByteArray := prog_8_method_3_code
def yX6_hasRested : MethodName := ⟨RX6, "hasRested", "(II)Z"⟩
abbrev cX6_addSilence : ByteArray := prog_8_method_4_code
def yX6_addSilence : MethodName := ⟨RX6, "addSilence", "(II)V"⟩
abbrev cX6_isSilentIn : ByteArray := prog_8_method_5_code
def yX6_isSilentIn : MethodName := ⟨RX6, "isSilentIn", "(I)Z"⟩
def RX7 : String := "Pagerloom$Runner"
def TX7 : u_T := fun k => match k with
  | 0 => ("Pagerloom$Runner", "tally", "LPagerloom$Tally;", true)
  | 1 => ("Pagerloom$Runner", "pile", "[J", true)
  | _ => ("Pagerloom$Runner", "high", "I", false)
def tyX7 : Nat → FieldType := fun k => match k with
  | 0 => .object "Pagerloom$Tally"
  | 1 => .array .long
  | _ => .int
theorem nmX7 : ∀ a, a < 3 → ∀ b, b < 3 → a ≠ b → (TX7 a).2.1 ≠ (TX7 b).2.1 := by decide +kernel
theorem tyX7_ok : ∀ k, k < 3 → parseFieldDescriptor (TX7 k).2.2.1 = some (tyX7 k) := by decide +kernel
abbrev cX7_init : ByteArray := prog_9_method_1_code
def yX7_init : MethodName := ⟨RX7, "<init>", "()V"⟩
abbrev cX7_run : ByteArray := prog_9_method_2_code
def yX7_run : MethodName := ⟨RX7, "run", "([IILPagerloom$Logs;)J"⟩
abbrev cX7_step : ByteArray := prog_9_method_3_code
def yX7_step : MethodName := ⟨RX7, "step", "([IILPagerloom$Logs;I)I"⟩
abbrev cX7_gather : ByteArray := prog_9_method_4_code
def yX7_gather : MethodName := ⟨RX7, "gather", "([IILPagerloom$Logs;)I"⟩
abbrev cX7_holds : ByteArray := prog_9_method_5_code
def yX7_holds : MethodName := ⟨RX7, "holds", "([IIILPagerloom$Logs;I)Z"⟩
abbrev cX7_push : ByteArray := prog_9_method_6_code
def yX7_push : MethodName := ⟨RX7, "push", "(J)V"⟩
abbrev cX7_pull : ByteArray := prog_9_method_7_code
def yX7_pull : MethodName := ⟨RX7, "pull", "()J"⟩
def RX8 : String := "Pagerloom$Tally"
def TX8 : u_T := fun k => match k with
  | 0 => ("Pagerloom$Tally", "seen", "[I", true)
  | 1 => ("Pagerloom$Tally", "count", "I", false)
  | 2 => ("Pagerloom$Tally", "sum", "J", false)
  | 3 => ("Pagerloom$Tally", "least", "I", false)
  | 4 => ("Pagerloom$Tally", "greatest", "I", false)
  | 5 => ("Pagerloom$Tally", "unlike", "I", false)
  | _ => ("Pagerloom$Tally", "times", "[I", true)
def tyX8 : Nat → FieldType := fun k => match k with
  | 0 => .array .int
  | 1 => .int
  | 2 => .long
  | 3 => .int
  | 4 => .int
  | 5 => .int
  | _ => .array .int
theorem nmX8 : ∀ a, a < 7 → ∀ b, b < 7 → a ≠ b → (TX8 a).2.1 ≠ (TX8 b).2.1 := by decide +kernel
theorem tyX8_ok : ∀ k, k < 7 → parseFieldDescriptor (TX8 k).2.2.1 = some (tyX8 k) := by decide +kernel
abbrev cX8_init : ByteArray := prog_10_method_1_code
def yX8_init : MethodName := ⟨RX8, "<init>", "()V"⟩
abbrev cX8_clear : ByteArray := prog_10_method_2_code
def yX8_clear : MethodName := ⟨RX8, "clear", "()V"⟩
abbrev cX8_add : ByteArray := prog_10_method_3_code
def yX8_add : MethodName := ⟨RX8, "add", "(I)V"⟩
abbrev cX8_result : ByteArray := prog_10_method_4_code
def yX8_result : MethodName := ⟨RX8, "result", "(I)J"⟩
abbrev cX8_mostOften : ByteArray := prog_10_method_5_code
def yX8_mostOften : MethodName := ⟨RX8, "mostOften", "()J"⟩
def RX9 : String := "Pagerloom$Walker"
def TX9 : u_T := fun k => match k with
  | _ => ("Pagerloom$Walker", "tally", "LPagerloom$Tally;", true)
def tyX9 : Nat → FieldType := fun k => match k with
  | _ => .object "Pagerloom$Tally"
theorem nmX9 : ∀ a, a < 1 → ∀ b, b < 1 → a ≠ b → (TX9 a).2.1 ≠ (TX9 b).2.1 := by decide +kernel
theorem tyX9_ok : ∀ k, k < 1 → parseFieldDescriptor (TX9 k).2.2.1 = some (tyX9 k) := by decide +kernel
abbrev cX9_init : ByteArray := prog_11_method_1_code
def yX9_init : MethodName := ⟨RX9, "<init>", "()V"⟩
abbrev cX9_run : ByteArray := prog_11_method_2_code
def yX9_run : MethodName := ⟨RX9, "run", "(LPagerloom$Node;LPagerloom$Logs;)J"⟩
abbrev cX9_valueOf : ByteArray := prog_11_method_3_code
def yX9_valueOf : MethodName := ⟨RX9, "valueOf", "(LPagerloom$Node;LPagerloom$Logs;II)J"⟩
abbrev cX9_gathered : ByteArray := prog_11_method_4_code
def yX9_gathered : MethodName := ⟨RX9, "gathered", "(LPagerloom$Node;LPagerloom$Logs;I)J"⟩
def RX10 : String := "Pagerloom"
def TX10 : u_T := fun k => match k with
  | 0 => ("Pagerloom", "text", "[C", true)
  | 1 => ("Pagerloom", "length", "I", false)
  | 2 => ("Pagerloom", "nowHour", "I", false)
  | 3 => ("Pagerloom", "rules", "[LPagerloom$Rule;", true)
  | 4 => ("Pagerloom", "ruleCount", "I", false)
  | 5 => ("Pagerloom", "logs", "LPagerloom$Logs;", true)
  | 6 => ("Pagerloom", "rota", "LPagerloom$Rota;", true)
  | 7 => ("Pagerloom", "alarmList", "LPagerloom$Alarms;", true)
  | 8 => ("Pagerloom", "reader", "LPagerloom$Reader;", true)
  | 9 => ("Pagerloom", "coder", "LPagerloom$Coder;", true)
  | 10 => ("Pagerloom", "walker", "LPagerloom$Walker;", true)
  | _ => ("Pagerloom", "runner", "LPagerloom$Runner;", true)
def tyX10 : Nat → FieldType := fun k => match k with
  | 0 => .array .char
  | 1 => .int
  | 2 => .int
  | 3 => .array (.object "Pagerloom$Rule")
  | 4 => .int
  | 5 => .object "Pagerloom$Logs"
  | 6 => .object "Pagerloom$Rota"
  | 7 => .object "Pagerloom$Alarms"
  | 8 => .object "Pagerloom$Reader"
  | 9 => .object "Pagerloom$Coder"
  | 10 => .object "Pagerloom$Walker"
  | _ => .object "Pagerloom$Runner"
theorem nmX10 : ∀ a, a < 12 → ∀ b, b < 12 → a ≠ b → (TX10 a).2.1 ≠ (TX10 b).2.1 := by decide +kernel
theorem tyX10_ok : ∀ k, k < 12 → parseFieldDescriptor (TX10 k).2.2.1 = some (tyX10 k) := by decide +kernel
abbrev cX10_init : ByteArray := prog_1_method_1_code
def yX10_init : MethodName := ⟨RX10, "<init>", "()V"⟩
abbrev cX10_type : ByteArray := prog_1_method_2_code
def yX10_type : MethodName := ⟨RX10, "type", "(C)I"⟩
abbrev cX10_clearText : ByteArray := prog_1_method_3_code
def yX10_clearText : MethodName := ⟨RX10, "clearText", "()I"⟩
abbrev cX10_errorAt : ByteArray := prog_1_method_4_code
def yX10_errorAt : MethodName := ⟨RX10, "errorAt", "()I"⟩
abbrev cX10_ask : ByteArray := prog_1_method_5_code
def yX10_ask : MethodName := ⟨RX10, "ask", "(II)J"⟩
abbrev cX10_askByCodes : ByteArray := prog_1_method_6_code
def yX10_askByCodes : MethodName := ⟨RX10, "askByCodes", "(II)J"⟩
abbrev cX10_pass : ByteArray := prog_1_method_7_code
def yX10_pass : MethodName := ⟨RX10, "pass", "(I)I"⟩
abbrev cX10_now : ByteArray := prog_1_method_8_code
def yX10_now : MethodName := ⟨RX10, "now", "()I"⟩
abbrev cX10_log : ByteArray := prog_1_method_9_code
def yX10_log : MethodName := ⟨RX10, "log", "(IIII)I"⟩
abbrev cX10_addPerson : ByteArray := prog_1_method_10_code
def yX10_addPerson : MethodName := ⟨RX10, "addPerson", "()I"⟩
abbrev cX10_off : ByteArray := prog_1_method_11_code
def yX10_off : MethodName := ⟨RX10, "off", "(II)Z"⟩
abbrev cX10_swap : ByteArray := prog_1_method_12_code
def yX10_swap : MethodName := ⟨RX10, "swap", "(II)V"⟩
abbrev cX10_planned : ByteArray := prog_1_method_13_code
def yX10_planned : MethodName := ⟨RX10, "planned", "(I)I"⟩
abbrev cX10_next : ByteArray := prog_1_method_14_code
def yX10_next : MethodName := ⟨RX10, "next", "()I"⟩
abbrev cX10_holder : ByteArray := prog_1_method_15_code
def yX10_holder : MethodName := ⟨RX10, "holder", "(I)I"⟩
abbrev cX10_nights : ByteArray := prog_1_method_16_code
def yX10_nights : MethodName := ⟨RX10, "nights", "(I)I"⟩
abbrev cX10_owes : ByteArray := prog_1_method_17_code
def yX10_owes : MethodName := ⟨RX10, "owes", "(II)I"⟩
abbrev cX10_addRule : ByteArray := prog_1_method_18_code
def yX10_addRule : MethodName := ⟨RX10, "addRule", "(III)I"⟩
abbrev cX10_drop : ByteArray := prog_1_method_19_code
def yX10_drop : MethodName := ⟨RX10, "drop", "(I)I"⟩
abbrev cX10_silence : ByteArray := prog_1_method_20_code
def yX10_silence : MethodName := ⟨RX10, "silence", "(III)I"⟩
abbrev cX10_inWindow : ByteArray := prog_1_method_21_code
def yX10_inWindow : MethodName := ⟨RX10, "inWindow", "(I)I"⟩
abbrev cX10_rises : ByteArray := prog_1_method_22_code
def yX10_rises : MethodName := ⟨RX10, "rises", "(I)I"⟩
abbrev cX10_risesAnew : ByteArray := prog_1_method_23_code
def yX10_risesAnew : MethodName := ⟨RX10, "risesAnew", "(I)I"⟩
abbrev cX10_alarms : ByteArray := prog_1_method_24_code
def yX10_alarms : MethodName := ⟨RX10, "alarms", "()I"⟩
abbrev cX10_waiting : ByteArray := prog_1_method_25_code
def yX10_waiting : MethodName := ⟨RX10, "waiting", "()I"⟩
abbrev cX10_alarm : ByteArray := prog_1_method_26_code
def yX10_alarm : MethodName := ⟨RX10, "alarm", "(I)I"⟩
abbrev cX10_woken : ByteArray := prog_1_method_27_code
def yX10_woken : MethodName := ⟨RX10, "woken", "(I)I"⟩
abbrev cX10_wokenAt : ByteArray := prog_1_method_28_code
def yX10_wokenAt : MethodName := ⟨RX10, "wokenAt", "(I)I"⟩
abbrev cX10_answer : ByteArray := prog_1_method_29_code
def yX10_answer : MethodName := ⟨RX10, "answer", "(IZ)I"⟩
abbrev cX10_wouldRise : ByteArray := prog_1_method_30_code
def yX10_wouldRise : MethodName := ⟨RX10, "wouldRise", "(I)Z"⟩
abbrev cX10_comeHour : ByteArray := prog_1_method_31_code
def yX10_comeHour : MethodName := ⟨RX10, "comeHour", "()V"⟩
abbrev cX10_isDue : ByteArray := prog_1_method_32_code
def yX10_isDue : MethodName := ⟨RX10, "isDue", "(LPagerloom$Rule;II)Z"⟩
abbrev cX10_pickWindow : ByteArray := prog_1_method_33_code
def yX10_pickWindow : MethodName := ⟨RX10, "pickWindow", "(LPagerloom$Rule;II)V"⟩
abbrev cX10_oweForAlarm : ByteArray := prog_1_method_34_code
def yX10_oweForAlarm : MethodName := ⟨RX10, "oweForAlarm", "(I)V"⟩
abbrev cX10_ruleAt : ByteArray := prog_1_method_35_code
def yX10_ruleAt : MethodName := ⟨RX10, "ruleAt", "(I)LPagerloom$Rule;"⟩
abbrev cX10_isToCome : ByteArray := prog_1_method_36_code
def yX10_isToCome : MethodName := ⟨RX10, "isToCome", "(I)Z"⟩
abbrev cX10_isIn : ByteArray := prog_1_method_37_code
def yX10_isIn : MethodName := ⟨RX10, "isIn", "(III)Z"⟩
abbrev cX10_isRange : ByteArray := prog_1_method_38_code
def yX10_isRange : MethodName := ⟨RX10, "isRange", "(IIII)Z"⟩
abbrev cX10_isNight : ByteArray := prog_1_method_39_code
def yX10_isNight : MethodName := ⟨RX10, "isNight", "(I)Z"⟩
abbrev cX10_isDigit : ByteArray := prog_1_method_40_code
def yX10_isDigit : MethodName := ⟨RX10, "isDigit", "(I)Z"⟩
abbrev cX10_isField : ByteArray := prog_1_method_41_code
def yX10_isField : MethodName := ⟨RX10, "isField", "(I)Z"⟩
abbrev cX10_isComparison : ByteArray := prog_1_method_42_code
def yX10_isComparison : MethodName := ⟨RX10, "isComparison", "(I)Z"⟩
abbrev cX10_isAggregate : ByteArray := prog_1_method_43_code
def yX10_isAggregate : MethodName := ⟨RX10, "isAggregate", "(I)Z"⟩
abbrev cX10_combined : ByteArray := prog_1_method_44_code
def yX10_combined : MethodName := ⟨RX10, "combined", "(IJJ)J"⟩
def RX11 : String := "PagerloomModel"
def TX11 : u_T := fun k => match k with
  | _ => ("", "", "", false)
def tyX11 : Nat → FieldType := fun k => match k with
  | _ => .int
theorem nmX11 : ∀ a, a < 0 → ∀ b, b < 0 → a ≠ b → (TX11 a).2.1 ≠ (TX11 b).2.1 := by decide +kernel
theorem tyX11_ok : ∀ k, k < 0 → parseFieldDescriptor (TX11 k).2.2.1 = some (tyX11 k) := by decide +kernel
def RJ9 : String := "java/lang/Math"
abbrev cJ9_max_7cf53 : ByteArray := prog_19_method_65_code
def yJ9_max_7cf53 : MethodName := ⟨RJ9, "max", "(II)I"⟩
abbrev cJ9_min_7cf53 : ByteArray := prog_19_method_69_code
def yJ9_min_7cf53 : MethodName := ⟨RJ9, "min", "(II)I"⟩
def RJ7 : String := "java/util/Arrays"
abbrev cJ7_fill_53178 : ByteArray := prog_23_method_103_code
def yJ7_fill_53178 : MethodName := ⟨RJ7, "fill", "([II)V"⟩
def RL : String := "PagerloomLaw"
abbrev cL_dice : ByteArray := method_2_code
def yL_dice : MethodName := ⟨RL, "dice", "([II)I"⟩
abbrev cL_act : ByteArray := method_3_code
def yL_act : MethodName := ⟨RL, "act", "(LPagerloom;IIIII)I"⟩
abbrev cL_swapped : ByteArray := method_4_code
def yL_swapped : MethodName := ⟨RL, "swapped", "(LPagerloom;II)I"⟩
abbrev cL_told : ByteArray := method_5_code
def yL_told : MethodName := ⟨RL, "told", "(LPagerloom;ZII)J"⟩
abbrev cL_of : ByteArray := method_6_code
def yL_of : MethodName := ⟨RL, "of", "(LPagerloom;III)I"⟩
abbrev cL_all : ByteArray := method_7_code
def yL_all : MethodName := ⟨RL, "all", "(LPagerloom;[I)J"⟩
abbrev cL_code : ByteArray := method_8_code
def yL_code : MethodName := ⟨RL, "code", "(I)I"⟩
abbrev cL_typed : ByteArray := method_9_code
def yL_typed : MethodName := ⟨RL, "typed", "(LPagerloom;[II)I"⟩
abbrev cL_isText : ByteArray := method_10_code
def yL_isText : MethodName := ⟨RL, "isText", "(LPagerloom;[I[II)Z"⟩
abbrev cL_says : ByteArray := method_11_code
def yL_says : MethodName := ⟨RL, "says", "(LPagerloom;I)Z"⟩
abbrev cL_value : ByteArray := method_12_code
def yL_value : MethodName := ⟨RL, "value", "(LPagerloom;IIIIII)J"⟩
abbrev cL_areValues : ByteArray := method_13_code
def yL_areValues : MethodName := ⟨RL, "areValues", "(LPagerloom;[I[II)Z"⟩
abbrev cL_areShifts : ByteArray := method_14_code
def yL_areShifts : MethodName := ⟨RL, "areShifts", "(LPagerloom;[I[II)Z"⟩
abbrev cL_isSwapped : ByteArray := method_15_code
def yL_isSwapped : MethodName := ⟨RL, "isSwapped", "(LPagerloom;[I[III)Z"⟩
abbrev cL_isHour : ByteArray := method_16_code
def yL_isHour : MethodName := ⟨RL, "isHour", "(LPagerloom;[I[I[I[I)Z"⟩
abbrev cL_areAlarms : ByteArray := method_17_code
def yL_areAlarms : MethodName := ⟨RL, "areAlarms", "(LPagerloom;[I[II)Z"⟩
abbrev cL_isAnswered : ByteArray := method_18_code
def yL_isAnswered : MethodName := ⟨RL, "isAnswered", "(LPagerloom;[I[I[IIZ)Z"⟩
abbrev cL_isRefused : ByteArray := method_19_code
def yL_isRefused : MethodName := ⟨RL, "isRefused", "(LPagerloom;[I[II)Z"⟩
abbrev cL_law : ByteArray := code
def yL_law : MethodName := ⟨RL, "law", "([I)Z"⟩
abbrev vwCl : List vw_C := [(RX0, TX0, 7), (RX1, TX1, 6), (RX2, TX2, 10), (RX3, TX3, 4), (RX4, TX4, 3), (RX5, TX5, 7), (RX6, TX6, 11), (RX7, TX7, 3), (RX8, TX8, 7), (RX9, TX9, 1), (RX10, TX10, 12)]
abbrev tyD (D : DD) : List (ClassId × FieldType) := [(D.2 0, .char), (D.2 1, .int), (D.2 2, .long), (D.2 3, .boolean), (D.2 4, .object RX6)]
/-- the static cells: behind the law's first steps the cell k lies at B + k -/
def cells (D : DD) (B : Nat) (w : Bool) (σ : St) : List va_E := match w with
  | false => []
  | true => [
    .inr (10, [.ref (B + 1), .int (gI σ 1), .int (gI σ 2), .ref (B + 2), .int (gI σ 4), .ref (B + 3), .ref (B + 12), .ref (B + 18), .ref (B + 24), .ref (B + 26), .ref (B + 30), .ref (B + 34)]),
    .inl (D.2 0, 40, .inl (gA σ 1)),
    .inl (D.2 4, 4, .inr (.inr (.inr (.inr (fun j => (gQ σ 2 j).map (B + ·)))))),
    .inr (2, [.ref (B + 4), .ref (B + 5), .ref (B + 6), .ref (B + 7), .ref (B + 8), .ref (B + 9), .ref (B + 10), .ref (B + 11), .int (gI σ 200), .int (gI σ 201)]),
    .inl (D.2 1, 100, .inl (gA σ 4)),
    .inl (D.2 1, 100, .inl (gA σ 5)),
    .inl (D.2 1, 100, .inl (gA σ 6)),
    .inl (D.2 1, 100, .inl (gA σ 7)),
    .inl (D.2 1, 100, .inl (gA σ 8)),
    .inl (D.2 1, 100, .inl (gA σ 9)),
    .inl (D.2 1, 1002, .inl (gA σ 10)),
    .inl (D.2 1, 100, .inl (gA σ 11)),
    .inr (5, [.int (gI σ 768), .ref (B + 13), .ref (B + 14), .ref (B + 15), .ref (B + 16), .ref (B + 17), .int (gI σ 774)]),
    .inl (D.2 1, 126, .inl (gA σ 13)),
    .inl (D.2 1, 126, .inl (gA σ 14)),
    .inl (D.2 1, 126, .inl (gA σ 15)),
    .inl (D.2 1, 4000, .inl (gA σ 16)),
    .inl (D.2 1, 4000, .inl (gA σ 17)),
    .inr (0, [.ref (B + 19), .ref (B + 20), .ref (B + 21), .ref (B + 22), .ref (B + 23), .int (gI σ 1157), .int (gI σ 1158)]),
    .inl (D.2 1, 4000, .inl (gA σ 19)),
    .inl (D.2 1, 4000, .inl (gA σ 20)),
    .inl (D.2 1, 4000, .inl (gA σ 21)),
    .inl (D.2 1, 4000, .inl (gA σ 22)),
    .inl (D.2 3, 4000, .inl (gA σ 23)),
    .inr (4, [rfB B (gR σ 1536), .int (gI σ 1537), .int (gI σ 1538)]),
    .inl (D.2 0, 0, .inl (gA σ 25)),
    .inr (1, [.ref (B + 27), .int (gI σ 1665), .ref (B + 28), .ref (B + 29), .int (gI σ 1668), .int (gI σ 1669)]),
    .inl (D.2 1, 80, .inl (gA σ 27)),
    .inl (D.2 1, 40, .inl (gA σ 28)),
    .inl (D.2 1, 40, .inl (gA σ 29)),
    .inr (9, [.ref (B + 31)]),
    .inr (8, [.ref (B + 32), .int (gI σ 1985), .long (gL σ 1986), .int (gI σ 1987), .int (gI σ 1988), .int (gI σ 1989), .ref (B + 33)]),
    .inl (D.2 1, 100, .inl (gA σ 32)),
    .inl (D.2 1, 2001, .inl (gA σ 33)),
    .inr (7, [.ref (B + 35), .ref (B + 38), .int (gI σ 2178)]),
    .inr (8, [.ref (B + 36), .int (gI σ 2241), .long (gL σ 2242), .int (gI σ 2243), .int (gI σ 2244), .int (gI σ 2245), .ref (B + 37)]),
    .inl (D.2 1, 100, .inl (gA σ 36)),
    .inl (D.2 1, 2001, .inl (gA σ 37)),
    .inl (D.2 2, 40, .inr (.inl (gJ σ 38))),
    .inl (D.2 1, 4, .inl (gA σ 39)),
    .inl (D.2 1, 60, .inl (gA σ 40)),
    .inl (D.2 1, 64, .inl (gA σ 41)),
    .inl (D.2 1, 48, .inl (gA σ 42)),
    .inl (D.2 1, 40, .inl (gA σ 43)),
    .inl (D.2 1, 64, .inl (gA σ 44))]
