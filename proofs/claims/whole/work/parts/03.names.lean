def RX0 : String := "Pagerloom$Alarms"
def TX0 : u_T := fun k => match k with
  | 0 => ("Pagerloom$Alarms", "rules", "[I", true)
  | 1 => ("Pagerloom$Alarms", "hours", "[I", true)
  | 2 => ("Pagerloom$Alarms", "woken", "[I", true)
  | 3 => ("Pagerloom$Alarms", "wokenIn", "[I", true)
  | 4 => ("Pagerloom$Alarms", "isAnswered", "[Z", true)
  | 5 => ("Pagerloom$Alarms", "count", "I", false)
  | _ => ("Pagerloom$Alarms", "wokenCount", "I", false)
def tyX0 : Nat → FieldType := fun k => match k with
  | 0 => .array .int
  | 1 => .array .int
  | 2 => .array .int
  | 3 => .array .int
  | 4 => .array .boolean
  | 5 => .int
  | _ => .int
theorem nmX0 : ∀ a, a < 7 → ∀ b, b < 7 → a ≠ b → (TX0 a).2.1 ≠ (TX0 b).2.1 := by decide +kernel
theorem tyX0_ok : ∀ k, k < 7 → parseFieldDescriptor (TX0 k).2.2.1 = some (tyX0 k) := by decide +kernel
abbrev cX0_init : ByteArray := prog_2_method_1_code
def yX0_init : MethodName := ⟨RX0, "<init>", "()V"⟩
abbrev cX0_has : ByteArray := prog_2_method_2_code
def yX0_has : MethodName := ⟨RX0, "has", "(I)Z"⟩
abbrev cX0_waits : ByteArray := prog_2_method_3_code
def yX0_waits : MethodName := ⟨RX0, "waits", "(I)Z"⟩
abbrev cX0_add : ByteArray := prog_2_method_4_code
def yX0_add : MethodName := ⟨RX0, "add", "(II)V"⟩
abbrev cX0_wakeAll : ByteArray := prog_2_method_5_code
def yX0_wakeAll : MethodName := ⟨RX0, "wakeAll", "(II)V"⟩
def RX1 : String := "Pagerloom$Coder"
def TX1 : u_T := fun k => match k with
  | 0 => ("Pagerloom$Coder", "codes", "[I", true)
  | 1 => ("Pagerloom$Coder", "size", "I", false)
  | 2 => ("Pagerloom$Coder", "pile", "[I", true)
  | 3 => ("Pagerloom$Coder", "starts", "[I", true)
  | 4 => ("Pagerloom$Coder", "high", "I", false)
  | _ => ("Pagerloom$Coder", "isBehindPart", "Z", false)
def tyX1 : Nat → FieldType := fun k => match k with
  | 0 => .array .int
  | 1 => .int
  | 2 => .array .int
  | 3 => .array .int
  | 4 => .int
  | _ => .boolean
theorem nmX1 : ∀ a, a < 6 → ∀ b, b < 6 → a ≠ b → (TX1 a).2.1 ≠ (TX1 b).2.1 := by decide +kernel
theorem tyX1_ok : ∀ k, k < 6 → parseFieldDescriptor (TX1 k).2.2.1 = some (tyX1 k) := by decide +kernel
abbrev cX1_init : ByteArray := prog_3_method_1_code
def yX1_init : MethodName := ⟨RX1, "<init>", "()V"⟩
abbrev cX1_turn : ByteArray := prog_3_method_2_code
def yX1_turn : MethodName := ⟨RX1, "turn", "([CI)V"⟩
abbrev cX1_turnPart : ByteArray := prog_3_method_3_code
def yX1_turnPart : MethodName := ⟨RX1, "turnPart", "([CII)I"⟩
abbrev cX1_turnNumber : ByteArray := prog_3_method_4_code
def yX1_turnNumber : MethodName := ⟨RX1, "turnNumber", "([CII)I"⟩
abbrev cX1_openAggregate : ByteArray := prog_3_method_5_code
def yX1_openAggregate : MethodName := ⟨RX1, "openAggregate", "([CII)I"⟩
abbrev cX1_close : ByteArray := prog_3_method_6_code
def yX1_close : MethodName := ⟨RX1, "close", "()V"⟩
abbrev cX1_turnSign : ByteArray := prog_3_method_7_code
def yX1_turnSign : MethodName := ⟨RX1, "turnSign", "(I)V"⟩
abbrev cX1_rankOf : ByteArray := prog_3_method_8_code
def yX1_rankOf : MethodName := ⟨RX1, "rankOf", "(I)I"⟩
abbrev cX1_settle : ByteArray := prog_3_method_9_code
def yX1_settle : MethodName := ⟨RX1, "settle", "(I)V"⟩
abbrev cX1_push : ByteArray := prog_3_method_10_code
def yX1_push : MethodName := ⟨RX1, "push", "(I)V"⟩
abbrev cX1_put : ByteArray := prog_3_method_11_code
def yX1_put : MethodName := ⟨RX1, "put", "(I)V"⟩
def RX2 : String := "Pagerloom$Logs"
def TX2 : u_T := fun k => match k with
  | 0 => ("Pagerloom$Logs", "parts", "[I", true)
  | 1 => ("Pagerloom$Logs", "levels", "[I", true)
  | 2 => ("Pagerloom$Logs", "values", "[I", true)
  | 3 => ("Pagerloom$Logs", "hours", "[I", true)
  | 4 => ("Pagerloom$Logs", "toldIn", "[I", true)
  | 5 => ("Pagerloom$Logs", "order", "[I", true)
  | 6 => ("Pagerloom$Logs", "ahead", "[I", true)
  | 7 => ("Pagerloom$Logs", "picked", "[I", true)
  | 8 => ("Pagerloom$Logs", "count", "I", false)
  | _ => ("Pagerloom$Logs", "picks", "I", false)
def tyX2 : Nat → FieldType := fun k => match k with
  | 0 => .array .int
  | 1 => .array .int
  | 2 => .array .int
  | 3 => .array .int
  | 4 => .array .int
  | 5 => .array .int
  | 6 => .array .int
  | 7 => .array .int
  | 8 => .int
  | _ => .int
theorem nmX2 : ∀ a, a < 10 → ∀ b, b < 10 → a ≠ b → (TX2 a).2.1 ≠ (TX2 b).2.1 := by decide +kernel
theorem tyX2_ok : ∀ k, k < 10 → parseFieldDescriptor (TX2 k).2.2.1 = some (tyX2 k) := by decide +kernel
abbrev cX2_init : ByteArray := prog_4_method_1_code
def yX2_init : MethodName := ⟨RX2, "<init>", "()V"⟩
abbrev cX2_add : ByteArray := prog_4_method_2_code
def yX2_add : MethodName := ⟨RX2, "add", "(IIIII)I"⟩
abbrev cX2_putInOrder : ByteArray := prog_4_method_3_code
def yX2_putInOrder : MethodName := ⟨RX2, "putInOrder", "(II)V"⟩
abbrev cX2_pick : ByteArray := prog_4_method_4_code
def yX2_pick : MethodName := ⟨RX2, "pick", "(III)V"⟩
abbrev cX2_fieldOf : ByteArray := prog_4_method_5_code
def yX2_fieldOf : MethodName := ⟨RX2, "fieldOf", "(II)I"⟩
def RX3 : String := "Pagerloom$Node"
def TX3 : u_T := fun k => match k with
  | 0 => ("Pagerloom$Node", "kind", "I", true)
  | 1 => ("Pagerloom$Node", "number", "I", true)
  | 2 => ("Pagerloom$Node", "left", "LPagerloom$Node;", true)
  | _ => ("Pagerloom$Node", "right", "LPagerloom$Node;", true)
def tyX3 : Nat → FieldType := fun k => match k with
  | 0 => .int
  | 1 => .int
  | 2 => .object "Pagerloom$Node"
  | _ => .object "Pagerloom$Node"
theorem nmX3 : ∀ a, a < 4 → ∀ b, b < 4 → a ≠ b → (TX3 a).2.1 ≠ (TX3 b).2.1 := by decide +kernel
theorem tyX3_ok : ∀ k, k < 4 → parseFieldDescriptor (TX3 k).2.2.1 = some (tyX3 k) := by decide +kernel
abbrev cX3_init : ByteArray := prog_5_method_1_code
def yX3_init : MethodName := ⟨RX3, "<init>", "(IILPagerloom$Node;LPagerloom$Node;)V"⟩
def RX4 : String := "Pagerloom$Reader"
def TX4 : u_T := fun k => match k with
  | 0 => ("Pagerloom$Reader", "text", "[C", false)
  | 1 => ("Pagerloom$Reader", "length", "I", false)
  | _ => ("Pagerloom$Reader", "at", "I", false)
def tyX4 : Nat → FieldType := fun k => match k with
  | 0 => .array .char
  | 1 => .int
  | _ => .int
theorem nmX4 : ∀ a, a < 3 → ∀ b, b < 3 → a ≠ b → (TX4 a).2.1 ≠ (TX4 b).2.1 := by decide +kernel
theorem tyX4_ok : ∀ k, k < 3 → parseFieldDescriptor (TX4 k).2.2.1 = some (tyX4 k) := by decide +kernel
abbrev cX4_init : ByteArray := prog_6_method_1_code
def yX4_init : MethodName := ⟨RX4, "<init>", "()V"⟩
abbrev cX4_read : ByteArray := prog_6_method_2_code
def yX4_read : MethodName := ⟨RX4, "read", "([CI)LPagerloom$Node;"⟩
abbrev cX4_place : ByteArray := prog_6_method_3_code
def yX4_place : MethodName := ⟨RX4, "place", "()I"⟩
abbrev cX4_here : ByteArray := prog_6_method_4_code
def yX4_here : MethodName := ⟨RX4, "here", "()I"⟩
abbrev cX4_readChain : ByteArray := prog_6_method_5_code
def yX4_readChain : MethodName := ⟨RX4, "readChain", "(II)LPagerloom$Node;"⟩
abbrev cX4_isSignOf : ByteArray := prog_6_method_6_code
def yX4_isSignOf : MethodName := ⟨RX4, "isSignOf", "(II)Z"⟩
abbrev cX4_readUnit : ByteArray := prog_6_method_7_code
def yX4_readUnit : MethodName := ⟨RX4, "readUnit", "(I)LPagerloom$Node;"⟩
abbrev cX4_readAggregate : ByteArray := prog_6_method_8_code
def yX4_readAggregate : MethodName := ⟨RX4, "readAggregate", "(I)LPagerloom$Node;"⟩
abbrev cX4_readTerm : ByteArray := prog_6_method_9_code
def yX4_readTerm : MethodName := ⟨RX4, "readTerm", "(I)LPagerloom$Node;"⟩
abbrev cX4_readComparison : ByteArray := prog_6_method_10_code
def yX4_readComparison : MethodName := ⟨RX4, "readComparison", "()LPagerloom$Node;"⟩
abbrev cX4_readField : ByteArray := prog_6_method_11_code
def yX4_readField : MethodName := ⟨RX4, "readField", "()LPagerloom$Node;"⟩
abbrev cX4_readNumber : ByteArray := prog_6_method_12_code
def yX4_readNumber : MethodName := ⟨RX4, "readNumber", "()LPagerloom$Node;"⟩
abbrev cX4_before : ByteArray := prog_6_method_13_code
def yX4_before : MethodName := ⟨RX4, "before", "(ILPagerloom$Node;)LPagerloom$Node;"⟩
abbrev cX4_closed : ByteArray := prog_6_method_14_code
def yX4_closed : MethodName := ⟨RX4, "closed", "(LPagerloom$Node;)LPagerloom$Node;"⟩
def RX5 : String := "Pagerloom$Rota"
def TX5 : u_T := fun k => match k with
  | 0 => ("Pagerloom$Rota", "people", "I", false)
  | 1 => ("Pagerloom$Rota", "swapped", "[I", true)
  | 2 => ("Pagerloom$Rota", "offs", "[I", true)
  | 3 => ("Pagerloom$Rota", "holders", "[I", true)
  | 4 => ("Pagerloom$Rota", "debtors", "[I", true)
  | 5 => ("Pagerloom$Rota", "creditors", "[I", true)
  | _ => ("Pagerloom$Rota", "debts", "I", false)
def tyX5 : Nat → FieldType := fun k => match k with
  | 0 => .int
  | 1 => .array .int
  | 2 => .array .int
  | 3 => .array .int
  | 4 => .array .int
  | 5 => .array .int
  | _ => .int
theorem nmX5 : ∀ a, a < 7 → ∀ b, b < 7 → a ≠ b → (TX5 a).2.1 ≠ (TX5 b).2.1 := by decide +kernel
theorem tyX5_ok : ∀ k, k < 7 → parseFieldDescriptor (TX5 k).2.2.1 = some (tyX5 k) := by decide +kernel
abbrev cX5_init : ByteArray := prog_7_method_1_code
def yX5_init : MethodName := ⟨RX5, "<init>", "()V"⟩
abbrev cX5_hasPerson : ByteArray := prog_7_method_2_code
def yX5_hasPerson : MethodName := ⟨RX5, "hasPerson", "(I)Z"⟩
abbrev cX5_turnOff : ByteArray := prog_7_method_3_code
def yX5_turnOff : MethodName := ⟨RX5, "turnOff", "(II)V"⟩
abbrev cX5_isOff : ByteArray := prog_7_method_4_code
def yX5_isOff : MethodName := ⟨RX5, "isOff", "(II)Z"⟩
abbrev cX5_give : ByteArray := prog_7_method_5_code
def yX5_give : MethodName := ⟨RX5, "give", "(II)V"⟩
abbrev cX5_plannedFor : ByteArray := prog_7_method_6_code
def yX5_plannedFor : MethodName := ⟨RX5, "plannedFor", "(I)I"⟩
abbrev cX5_holderToBe : ByteArray := prog_7_method_7_code
def yX5_holderToBe : MethodName := ⟨RX5, "holderToBe", "(I)I"⟩
abbrev cX5_debtPaidIn : ByteArray := prog_7_method_8_code
def yX5_debtPaidIn : MethodName := ⟨RX5, "debtPaidIn", "(I)I"⟩
abbrev cX5_begin : ByteArray := prog_7_method_9_code
def yX5_begin : MethodName := ⟨RX5, "begin", "(I)V"⟩
abbrev cX5_holderOf : ByteArray := prog_7_method_10_code
def yX5_holderOf : MethodName := ⟨RX5, "holderOf", "(I)I"⟩
abbrev cX5_nightsOf : ByteArray := prog_7_method_11_code
def yX5_nightsOf : MethodName := ⟨RX5, "nightsOf", "(I)I"⟩
abbrev cX5_debtsOf : ByteArray := prog_7_method_12_code
def yX5_debtsOf : MethodName := ⟨RX5, "debtsOf", "(II)I"⟩
abbrev cX5_addDebt : ByteArray := prog_7_method_13_code
def yX5_addDebt : MethodName := ⟨RX5, "addDebt", "(II)V"⟩
abbrev cX5_forgetDebt : ByteArray := prog_7_method_14_code
def yX5_forgetDebt : MethodName := ⟨RX5, "forgetDebt", "(I)V"⟩
def RX6 : String := "Pagerloom$Rule"
def TX6 : u_T := fun k => match k with
  | 0 => ("Pagerloom$Rule", "question", "LPagerloom$Node;", true)
  | 1 => ("Pagerloom$Rule", "owner", "I", true)
  | 2 => ("Pagerloom$Rule", "window", "I", true)
  | 3 => ("Pagerloom$Rule", "rest", "I", true)
  | 4 => ("Pagerloom$Rule", "madeIn", "I", true)
  | 5 => ("Pagerloom$Rule", "lastHour", "I", false)
  | 6 => ("Pagerloom$Rule", "silentFrom", "[I", true)
  | 7 => ("Pagerloom$Rule", "silentTo", "[I", true)
  | 8 => ("Pagerloom$Rule", "silences", "I", false)
  | 9 => ("Pagerloom$Rule", "riseCount", "I", false)
  | _ => ("Pagerloom$Rule", "lastRise", "I", false)
def tyX6 : Nat → FieldType := fun k => match k with
  | 0 => .object "Pagerloom$Node"
  | 1 => .int
  | 2 => .int
  | 3 => .int
  | 4 => .int
  | 5 => .int
  | 6 => .array .int
  | 7 => .array .int
  | 8 => .int
  | 9 => .int
  | _ => .int
theorem nmX6 : ∀ a, a < 11 → ∀ b, b < 11 → a ≠ b → (TX6 a).2.1 ≠ (TX6 b).2.1 := by decide +kernel
theorem tyX6_ok : ∀ k, k < 11 → parseFieldDescriptor (TX6 k).2.2.1 = some (tyX6 k) := by decide +kernel
abbrev cX6_init : ByteArray := prog_8_method_1_code
def yX6_init : MethodName := ⟨RX6, "<init>", "(LPagerloom$Node;IIII)V"⟩
abbrev cX6_isDropped : ByteArray := prog_8_method_2_code
def yX6_isDropped : MethodName := ⟨RX6, "isDropped", "()Z"⟩
abbrev cX6_hasRested : ByteArray := prog_8_method_3_code
def yX6_hasRested : MethodName := ⟨RX6, "hasRested", "(II)Z"⟩
abbrev cX6_addSilence : ByteArray := prog_8_method_4_code
def yX6_addSilence : MethodName := ⟨RX6, "addSilence", "(II)V"⟩
abbrev cX6_isSilentIn : ByteArray := prog_8_method_5_code
def yX6_isSilentIn : MethodName := ⟨RX6, "isSilentIn", "(I)Z"⟩
def RX7 : String := "Pagerloom$Runner"
def TX7 : u_T := fun k => match k with
  | 0 => ("Pagerloom$Runner", "tally", "LPagerloom$Tally;", true)
  | 1 => ("Pagerloom$Runner", "pile", "[J", true)
  | _ => ("Pagerloom$Runner", "high", "I", false)
def tyX7 : Nat → FieldType := fun k => match k with
  | 0 => .object "Pagerloom$Tally"
  | 1 => .array .long
  | _ => .int
theorem nmX7 : ∀ a, a < 3 → ∀ b, b < 3 → a ≠ b → (TX7 a).2.1 ≠ (TX7 b).2.1 := by decide +kernel
theorem tyX7_ok : ∀ k, k < 3 → parseFieldDescriptor (TX7 k).2.2.1 = some (tyX7 k) := by decide +kernel
abbrev cX7_init : ByteArray := prog_9_method_1_code
def yX7_init : MethodName := ⟨RX7, "<init>", "()V"⟩
abbrev cX7_run : ByteArray := prog_9_method_2_code
def yX7_run : MethodName := ⟨RX7, "run", "([IILPagerloom$Logs;)J"⟩
abbrev cX7_step : ByteArray := prog_9_method_3_code
def yX7_step : MethodName := ⟨RX7, "step", "([IILPagerloom$Logs;I)I"⟩
abbrev cX7_gather : ByteArray := prog_9_method_4_code
def yX7_gather : MethodName := ⟨RX7, "gather", "([IILPagerloom$Logs;)I"⟩
abbrev cX7_holds : ByteArray := prog_9_method_5_code
def yX7_holds : MethodName := ⟨RX7, "holds", "([IIILPagerloom$Logs;I)Z"⟩
abbrev cX7_push : ByteArray := prog_9_method_6_code
def yX7_push : MethodName := ⟨RX7, "push", "(J)V"⟩
abbrev cX7_pull : ByteArray := prog_9_method_7_code
def yX7_pull : MethodName := ⟨RX7, "pull", "()J"⟩
def RX8 : String := "Pagerloom$Tally"
def TX8 : u_T := fun k => match k with
  | 0 => ("Pagerloom$Tally", "seen", "[I", true)
  | 1 => ("Pagerloom$Tally", "count", "I", false)
  | 2 => ("Pagerloom$Tally", "sum", "J", false)
  | 3 => ("Pagerloom$Tally", "least", "I", false)
  | 4 => ("Pagerloom$Tally", "greatest", "I", false)
  | 5 => ("Pagerloom$Tally", "unlike", "I", false)
  | _ => ("Pagerloom$Tally", "times", "[I", true)
def tyX8 : Nat → FieldType := fun k => match k with
  | 0 => .array .int
  | 1 => .int
  | 2 => .long
  | 3 => .int
  | 4 => .int
  | 5 => .int
  | _ => .array .int
theorem nmX8 : ∀ a, a < 7 → ∀ b, b < 7 → a ≠ b → (TX8 a).2.1 ≠ (TX8 b).2.1 := by decide +kernel
theorem tyX8_ok : ∀ k, k < 7 → parseFieldDescriptor (TX8 k).2.2.1 = some (tyX8 k) := by decide +kernel
abbrev cX8_init : ByteArray := prog_10_method_1_code
def yX8_init : MethodName := ⟨RX8, "<init>", "()V"⟩
abbrev cX8_clear : ByteArray := prog_10_method_2_code
def yX8_clear : MethodName := ⟨RX8, "clear", "()V"⟩
abbrev cX8_add : ByteArray := prog_10_method_3_code
def yX8_add : MethodName := ⟨RX8, "add", "(I)V"⟩
abbrev cX8_result : ByteArray := prog_10_method_4_code
def yX8_result : MethodName := ⟨RX8, "result", "(I)J"⟩
abbrev cX8_mostOften : ByteArray := prog_10_method_5_code
def yX8_mostOften : MethodName := ⟨RX8, "mostOften", "()J"⟩
def RX9 : String := "Pagerloom$Walker"
def TX9 : u_T := fun k => match k with
  | _ => ("Pagerloom$Walker", "tally", "LPagerloom$Tally;", true)
def tyX9 : Nat → FieldType := fun k => match k with
  | _ => .object "Pagerloom$Tally"
theorem nmX9 : ∀ a, a < 1 → ∀ b, b < 1 → a ≠ b → (TX9 a).2.1 ≠ (TX9 b).2.1 := by decide +kernel
theorem tyX9_ok : ∀ k, k < 1 → parseFieldDescriptor (TX9 k).2.2.1 = some (tyX9 k) := by decide +kernel
abbrev cX9_init : ByteArray := prog_11_method_1_code
def yX9_init : MethodName := ⟨RX9, "<init>", "()V"⟩
abbrev cX9_run : ByteArray := prog_11_method_2_code
def yX9_run : MethodName := ⟨RX9, "run", "(LPagerloom$Node;LPagerloom$Logs;)J"⟩
abbrev cX9_valueOf : ByteArray := prog_11_method_3_code
def yX9_valueOf : MethodName := ⟨RX9, "valueOf", "(LPagerloom$Node;LPagerloom$Logs;II)J"⟩
abbrev cX9_gathered : ByteArray := prog_11_method_4_code
def yX9_gathered : MethodName := ⟨RX9, "gathered", "(LPagerloom$Node;LPagerloom$Logs;I)J"⟩
def RX10 : String := "Pagerloom"
def TX10 : u_T := fun k => match k with
  | 0 => ("Pagerloom", "text", "[C", true)
  | 1 => ("Pagerloom", "length", "I", false)
  | 2 => ("Pagerloom", "nowHour", "I", false)
  | 3 => ("Pagerloom", "rules", "[LPagerloom$Rule;", true)
  | 4 => ("Pagerloom", "ruleCount", "I", false)
  | 5 => ("Pagerloom", "logs", "LPagerloom$Logs;", true)
  | 6 => ("Pagerloom", "rota", "LPagerloom$Rota;", true)
  | 7 => ("Pagerloom", "alarmList", "LPagerloom$Alarms;", true)
  | 8 => ("Pagerloom", "reader", "LPagerloom$Reader;", true)
  | 9 => ("Pagerloom", "coder", "LPagerloom$Coder;", true)
  | 10 => ("Pagerloom", "walker", "LPagerloom$Walker;", true)
  | _ => ("Pagerloom", "runner", "LPagerloom$Runner;", true)
def tyX10 : Nat → FieldType := fun k => match k with
  | 0 => .array .char
  | 1 => .int
  | 2 => .int
  | 3 => .array (.object "Pagerloom$Rule")
  | 4 => .int
  | 5 => .object "Pagerloom$Logs"
  | 6 => .object "Pagerloom$Rota"
  | 7 => .object "Pagerloom$Alarms"
  | 8 => .object "Pagerloom$Reader"
  | 9 => .object "Pagerloom$Coder"
  | 10 => .object "Pagerloom$Walker"
  | _ => .object "Pagerloom$Runner"
theorem nmX10 : ∀ a, a < 12 → ∀ b, b < 12 → a ≠ b → (TX10 a).2.1 ≠ (TX10 b).2.1 := by decide +kernel
theorem tyX10_ok : ∀ k, k < 12 → parseFieldDescriptor (TX10 k).2.2.1 = some (tyX10 k) := by decide +kernel
abbrev cX10_init : ByteArray := prog_1_method_1_code
def yX10_init : MethodName := ⟨RX10, "<init>", "()V"⟩
abbrev cX10_type : ByteArray := prog_1_method_2_code
def yX10_type : MethodName := ⟨RX10, "type", "(C)I"⟩
abbrev cX10_clearText : ByteArray := prog_1_method_3_code
def yX10_clearText : MethodName := ⟨RX10, "clearText", "()I"⟩
abbrev cX10_errorAt : ByteArray := prog_1_method_4_code
def yX10_errorAt : MethodName := ⟨RX10, "errorAt", "()I"⟩
abbrev cX10_ask : ByteArray := prog_1_method_5_code
def yX10_ask : MethodName := ⟨RX10, "ask", "(II)J"⟩
abbrev cX10_askByCodes : ByteArray := prog_1_method_6_code
def yX10_askByCodes : MethodName := ⟨RX10, "askByCodes", "(II)J"⟩
abbrev cX10_pass : ByteArray := prog_1_method_7_code
def yX10_pass : MethodName := ⟨RX10, "pass", "(I)I"⟩
abbrev cX10_now : ByteArray := prog_1_method_8_code
def yX10_now : MethodName := ⟨RX10, "now", "()I"⟩
abbrev cX10_log : ByteArray := prog_1_method_9_code
def yX10_log : MethodName := ⟨RX10, "log", "(IIII)I"⟩
abbrev cX10_addPerson : ByteArray := prog_1_method_10_code
def yX10_addPerson : MethodName := ⟨RX10, "addPerson", "()I"⟩
abbrev cX10_off : ByteArray := prog_1_method_11_code
def yX10_off : MethodName := ⟨RX10, "off", "(II)Z"⟩
abbrev cX10_swap : ByteArray := prog_1_method_12_code
def yX10_swap : MethodName := ⟨RX10, "swap", "(II)V"⟩
abbrev cX10_planned : ByteArray := prog_1_method_13_code
def yX10_planned : MethodName := ⟨RX10, "planned", "(I)I"⟩
abbrev cX10_next : ByteArray := prog_1_method_14_code
def yX10_next : MethodName := ⟨RX10, "next", "()I"⟩
abbrev cX10_holder : ByteArray := prog_1_method_15_code
def yX10_holder : MethodName := ⟨RX10, "holder", "(I)I"⟩
abbrev cX10_nights : ByteArray := prog_1_method_16_code
def yX10_nights : MethodName := ⟨RX10, "nights", "(I)I"⟩
abbrev cX10_owes : ByteArray := prog_1_method_17_code
def yX10_owes : MethodName := ⟨RX10, "owes", "(II)I"⟩
abbrev cX10_addRule : ByteArray := prog_1_method_18_code
def yX10_addRule : MethodName := ⟨RX10, "addRule", "(III)I"⟩
abbrev cX10_drop : ByteArray := prog_1_method_19_code
def yX10_drop : MethodName := ⟨RX10, "drop", "(I)I"⟩
abbrev cX10_silence : ByteArray := prog_1_method_20_code
def yX10_silence : MethodName := ⟨RX10, "silence", "(III)I"⟩
abbrev cX10_inWindow : ByteArray := prog_1_method_21_code
def yX10_inWindow : MethodName := ⟨RX10, "inWindow", "(I)I"⟩
abbrev cX10_rises : ByteArray := prog_1_method_22_code
def yX10_rises : MethodName := ⟨RX10, "rises", "(I)I"⟩
abbrev cX10_risesAnew : ByteArray := prog_1_method_23_code
def yX10_risesAnew : MethodName := ⟨RX10, "risesAnew", "(I)I"⟩
abbrev cX10_alarms : ByteArray := prog_1_method_24_code
def yX10_alarms : MethodName := ⟨RX10, "alarms", "()I"⟩
abbrev cX10_waiting : ByteArray := prog_1_method_25_code
def yX10_waiting : MethodName := ⟨RX10, "waiting", "()I"⟩
abbrev cX10_alarm : ByteArray := prog_1_method_26_code
def yX10_alarm : MethodName := ⟨RX10, "alarm", "(I)I"⟩
abbrev cX10_woken : ByteArray := prog_1_method_27_code
def yX10_woken : MethodName := ⟨RX10, "woken", "(I)I"⟩
abbrev cX10_wokenAt : ByteArray := prog_1_method_28_code
def yX10_wokenAt : MethodName := ⟨RX10, "wokenAt", "(I)I"⟩
abbrev cX10_answer : ByteArray := prog_1_method_29_code
def yX10_answer : MethodName := ⟨RX10, "answer", "(IZ)I"⟩
abbrev cX10_wouldRise : ByteArray := prog_1_method_30_code
def yX10_wouldRise : MethodName := ⟨RX10, "wouldRise", "(I)Z"⟩
abbrev cX10_comeHour : ByteArray := prog_1_method_31_code
def yX10_comeHour : MethodName := ⟨RX10, "comeHour", "()V"⟩
abbrev cX10_isDue : ByteArray := prog_1_method_32_code
def yX10_isDue : MethodName := ⟨RX10, "isDue", "(LPagerloom$Rule;II)Z"⟩
abbrev cX10_pickWindow : ByteArray := prog_1_method_33_code
def yX10_pickWindow : MethodName := ⟨RX10, "pickWindow", "(LPagerloom$Rule;II)V"⟩
abbrev cX10_oweForAlarm : ByteArray := prog_1_method_34_code
def yX10_oweForAlarm : MethodName := ⟨RX10, "oweForAlarm", "(I)V"⟩
abbrev cX10_ruleAt : ByteArray := prog_1_method_35_code
def yX10_ruleAt : MethodName := ⟨RX10, "ruleAt", "(I)LPagerloom$Rule;"⟩
abbrev cX10_isToCome : ByteArray := prog_1_method_36_code
def yX10_isToCome : MethodName := ⟨RX10, "isToCome", "(I)Z"⟩
abbrev cX10_isIn : ByteArray := prog_1_method_37_code
def yX10_isIn : MethodName := ⟨RX10, "isIn", "(III)Z"⟩
abbrev cX10_isRange : ByteArray := prog_1_method_38_code
def yX10_isRange : MethodName := ⟨RX10, "isRange", "(IIII)Z"⟩
abbrev cX10_isNight : ByteArray := prog_1_method_39_code
def yX10_isNight : MethodName := ⟨RX10, "isNight", "(I)Z"⟩
abbrev cX10_isDigit : ByteArray := prog_1_method_40_code
def yX10_isDigit : MethodName := ⟨RX10, "isDigit", "(I)Z"⟩
abbrev cX10_isField : ByteArray := prog_1_method_41_code
def yX10_isField : MethodName := ⟨RX10, "isField", "(I)Z"⟩
abbrev cX10_isComparison : ByteArray := prog_1_method_42_code
def yX10_isComparison : MethodName := ⟨RX10, "isComparison", "(I)Z"⟩
abbrev cX10_isAggregate : ByteArray := prog_1_method_43_code
def yX10_isAggregate : MethodName := ⟨RX10, "isAggregate", "(I)Z"⟩
abbrev cX10_combined : ByteArray := prog_1_method_44_code
def yX10_combined : MethodName := ⟨RX10, "combined", "(IJJ)J"⟩
def RX11 : String := "PagerloomModel"
def TX11 : u_T := fun k => match k with
  | 0 => ("PagerloomModel", "text", "[I", true)
  | 1 => ("PagerloomModel", "length", "I", false)
  | 2 => ("PagerloomModel", "codes", "[I", true)
  | 3 => ("PagerloomModel", "with", "[I", true)
  | 4 => ("PagerloomModel", "many", "[I", true)
  | 5 => ("PagerloomModel", "asks", "[I", true)
  | 6 => ("PagerloomModel", "asksWith", "[I", true)
  | 7 => ("PagerloomModel", "asksMany", "[I", true)
  | 8 => ("PagerloomModel", "slot", "I", false)
  | 9 => ("PagerloomModel", "state", "I", false)
  | 10 => ("PagerloomModel", "digits", "I", false)
  | 11 => ("PagerloomModel", "number", "I", false)
  | 12 => ("PagerloomModel", "isBelow", "Z", false)
  | 13 => ("PagerloomModel", "kind", "I", false)
  | 14 => ("PagerloomModel", "field", "I", false)
  | 15 => ("PagerloomModel", "first", "I", false)
  | 16 => ("PagerloomModel", "termField", "I", false)
  | 17 => ("PagerloomModel", "termSign", "I", false)
  | 18 => ("PagerloomModel", "waiting", "[I", true)
  | 19 => ("PagerloomModel", "waits", "I", false)
  | 20 => ("PagerloomModel", "asked", "[I", true)
  | 21 => ("PagerloomModel", "askedMany", "I", false)
  | 22 => ("PagerloomModel", "level", "I", false)
  | 23 => ("PagerloomModel", "askLevel", "I", false)
  | 24 => ("PagerloomModel", "isCompared", "[Z", true)
  | 25 => ("PagerloomModel", "pile", "[J", true)
  | 26 => ("PagerloomModel", "height", "I", false)
  | 27 => ("PagerloomModel", "truths", "[Z", true)
  | 28 => ("PagerloomModel", "from", "I", false)
  | 29 => ("PagerloomModel", "to", "I", false)
  | 30 => ("PagerloomModel", "now", "I", false)
  | 31 => ("PagerloomModel", "logs", "I", false)
  | 32 => ("PagerloomModel", "parts", "[I", true)
  | 33 => ("PagerloomModel", "levels", "[I", true)
  | 34 => ("PagerloomModel", "values", "[I", true)
  | 35 => ("PagerloomModel", "hours", "[I", true)
  | 36 => ("PagerloomModel", "people", "I", false)
  | 37 => ("PagerloomModel", "isOff", "[Z", true)
  | 38 => ("PagerloomModel", "swapped", "[I", true)
  | 39 => ("PagerloomModel", "holders", "[I", true)
  | 40 => ("PagerloomModel", "rules", "I", false)
  | 41 => ("PagerloomModel", "owners", "[I", true)
  | 42 => ("PagerloomModel", "windows", "[I", true)
  | 43 => ("PagerloomModel", "rests", "[I", true)
  | 44 => ("PagerloomModel", "isDropped", "[Z", true)
  | 45 => ("PagerloomModel", "last", "[I", true)
  | 46 => ("PagerloomModel", "risen", "[I", true)
  | 47 => ("PagerloomModel", "silences", "[I", true)
  | 48 => ("PagerloomModel", "silentFrom", "[I", true)
  | 49 => ("PagerloomModel", "silentTo", "[I", true)
  | 50 => ("PagerloomModel", "alarms", "I", false)
  | 51 => ("PagerloomModel", "alarmed", "[I", true)
  | 52 => ("PagerloomModel", "debts", "I", false)
  | 53 => ("PagerloomModel", "owed", "[I", true)
  | 54 => ("PagerloomModel", "paid", "I", false)
  | _ => ("PagerloomModel", "thrown", "I", false)
def tyX11 : Nat → FieldType := fun k => match k with
  | 0 => .array .int
  | 1 => .int
  | 2 => .array .int
  | 3 => .array .int
  | 4 => .array .int
  | 5 => .array .int
  | 6 => .array .int
  | 7 => .array .int
  | 8 => .int
  | 9 => .int
  | 10 => .int
  | 11 => .int
  | 12 => .boolean
  | 13 => .int
  | 14 => .int
  | 15 => .int
  | 16 => .int
  | 17 => .int
  | 18 => .array .int
  | 19 => .int
  | 20 => .array .int
  | 21 => .int
  | 22 => .int
  | 23 => .int
  | 24 => .array .boolean
  | 25 => .array .long
  | 26 => .int
  | 27 => .array .boolean
  | 28 => .int
  | 29 => .int
  | 30 => .int
  | 31 => .int
  | 32 => .array .int
  | 33 => .array .int
  | 34 => .array .int
  | 35 => .array .int
  | 36 => .int
  | 37 => .array .boolean
  | 38 => .array .int
  | 39 => .array .int
  | 40 => .int
  | 41 => .array .int
  | 42 => .array .int
  | 43 => .array .int
  | 44 => .array .boolean
  | 45 => .array .int
  | 46 => .array .int
  | 47 => .array .int
  | 48 => .array .int
  | 49 => .array .int
  | 50 => .int
  | 51 => .array .int
  | 52 => .int
  | 53 => .array .int
  | 54 => .int
  | _ => .int
theorem nmX11 : ∀ a, a < 56 → ∀ b, b < 56 → a ≠ b → (TX11 a).2.1 ≠ (TX11 b).2.1 := by decide +kernel
theorem tyX11_ok : ∀ k, k < 56 → parseFieldDescriptor (TX11 k).2.2.1 = some (tyX11 k) := by decide +kernel
abbrev cX11_init : ByteArray := prog_13_method_1_code
def yX11_init : MethodName := ⟨RX11, "<init>", "()V"⟩
abbrev cX11_thrown : ByteArray := prog_13_method_2_code
def yX11_thrown : MethodName := ⟨RX11, "thrown", "()I"⟩
abbrev cX11_goes : ByteArray := prog_13_method_3_code
def yX11_goes : MethodName := ⟨RX11, "goes", "(I)Z"⟩
abbrev cX11_isIn : ByteArray := prog_13_method_4_code
def yX11_isIn : MethodName := ⟨RX11, "isIn", "(III)Z"⟩
abbrev cX11_puts : ByteArray := prog_13_method_5_code
def yX11_puts : MethodName := ⟨RX11, "puts", "(II)V"⟩
abbrev cX11_putsAsk : ByteArray := prog_13_method_6_code
def yX11_putsAsk : MethodName := ⟨RX11, "putsAsk", "(II)V"⟩
abbrev cX11_isFigure : ByteArray := prog_13_method_7_code
def yX11_isFigure : MethodName := ⟨RX11, "isFigure", "(I)Z"⟩
abbrev cX11_fieldOf : ByteArray := prog_13_method_8_code
def yX11_fieldOf : MethodName := ⟨RX11, "fieldOf", "(I)I"⟩
abbrev cX11_kindOf : ByteArray := prog_13_method_9_code
def yX11_kindOf : MethodName := ⟨RX11, "kindOf", "(I)I"⟩
abbrev cX11_rank : ByteArray := prog_13_method_10_code
def yX11_rank : MethodName := ⟨RX11, "rank", "(I)I"⟩
abbrev cX11_endsUnit : ByteArray := prog_13_method_11_code
def yX11_endsUnit : MethodName := ⟨RX11, "endsUnit", "()V"⟩
abbrev cX11_putsWaiting : ByteArray := prog_13_method_12_code
def yX11_putsWaiting : MethodName := ⟨RX11, "putsWaiting", "(I)V"⟩
abbrev cX11_endsTerm : ByteArray := prog_13_method_13_code
def yX11_endsTerm : MethodName := ⟨RX11, "endsTerm", "()V"⟩
abbrev cX11_askRank : ByteArray := prog_13_method_14_code
def yX11_askRank : MethodName := ⟨RX11, "askRank", "(I)I"⟩
abbrev cX11_putsAsked : ByteArray := prog_13_method_15_code
def yX11_putsAsked : MethodName := ⟨RX11, "putsAsked", "(I)V"⟩
abbrev cX11_endsAggregate : ByteArray := prog_13_method_16_code
def yX11_endsAggregate : MethodName := ⟨RX11, "endsAggregate", "(Z)V"⟩
abbrev cX11_goesToUnit : ByteArray := prog_13_method_17_code
def yX11_goesToUnit : MethodName := ⟨RX11, "goesToUnit", "(I)Z"⟩
abbrev cX11_goesBehind : ByteArray := prog_13_method_18_code
def yX11_goesBehind : MethodName := ⟨RX11, "goesBehind", "(I)Z"⟩
abbrev cX11_goesMore : ByteArray := prog_13_method_19_code
def yX11_goesMore : MethodName := ⟨RX11, "goesMore", "(I)Z"⟩
abbrev cX11_goesToTerm : ByteArray := prog_13_method_20_code
def yX11_goesToTerm : MethodName := ⟨RX11, "goesToTerm", "(I)Z"⟩
abbrev cX11_goesAfter : ByteArray := prog_13_method_21_code
def yX11_goesAfter : MethodName := ⟨RX11, "goesAfter", "(I)Z"⟩
abbrev cX11_goesDigit : ByteArray := prog_13_method_22_code
def yX11_goesDigit : MethodName := ⟨RX11, "goesDigit", "(I)Z"⟩
abbrev cX11_goesOn : ByteArray := prog_13_method_23_code
def yX11_goesOn : MethodName := ⟨RX11, "goesOn", "(I)Z"⟩
abbrev cX11_endsNumber : ByteArray := prog_13_method_24_code
def yX11_endsNumber : MethodName := ⟨RX11, "endsNumber", "()V"⟩
abbrev cX11_reads : ByteArray := prog_13_method_25_code
def yX11_reads : MethodName := ⟨RX11, "reads", "(I)Z"⟩
abbrev cX11_turns : ByteArray := prog_13_method_26_code
def yX11_turns : MethodName := ⟨RX11, "turns", "(I)I"⟩
abbrev cX11_fieldIn : ByteArray := prog_13_method_27_code
def yX11_fieldIn : MethodName := ⟨RX11, "fieldIn", "(II)I"⟩
abbrev cX11_areSo : ByteArray := prog_13_method_28_code
def yX11_areSo : MethodName := ⟨RX11, "areSo", "(JIJ)Z"⟩
abbrev cX11_holds : ByteArray := prog_13_method_29_code
def yX11_holds : MethodName := ⟨RX11, "holds", "(IIII)Z"⟩
abbrev cX11_isChosen : ByteArray := prog_13_method_30_code
def yX11_isChosen : MethodName := ⟨RX11, "isChosen", "(III)Z"⟩
abbrev cX11_times : ByteArray := prog_13_method_31_code
def yX11_times : MethodName := ⟨RX11, "times", "(IIII)I"⟩
abbrev cX11_aggregate : ByteArray := prog_13_method_32_code
def yX11_aggregate : MethodName := ⟨RX11, "aggregate", "(II)J"⟩
abbrev cX11_reckoned : ByteArray := prog_13_method_33_code
def yX11_reckoned : MethodName := ⟨RX11, "reckoned", "(IJJ)J"⟩
abbrev cX11_runs : ByteArray := prog_13_method_34_code
def yX11_runs : MethodName := ⟨RX11, "runs", "(III)J"⟩
abbrev cX11_type : ByteArray := prog_13_method_35_code
def yX11_type : MethodName := ⟨RX11, "type", "(C)I"⟩
abbrev cX11_clearText : ByteArray := prog_13_method_36_code
def yX11_clearText : MethodName := ⟨RX11, "clearText", "()I"⟩
abbrev cX11_errorAt : ByteArray := prog_13_method_37_code
def yX11_errorAt : MethodName := ⟨RX11, "errorAt", "()I"⟩
abbrev cX11_asked : ByteArray := prog_13_method_38_code
def yX11_asked : MethodName := ⟨RX11, "asked", "(II)J"⟩
abbrev cX11_ask : ByteArray := prog_13_method_39_code
def yX11_ask : MethodName := ⟨RX11, "ask", "(II)J"⟩
abbrev cX11_askByCodes : ByteArray := prog_13_method_40_code
def yX11_askByCodes : MethodName := ⟨RX11, "askByCodes", "(II)J"⟩
abbrev cX11_isPerson : ByteArray := prog_13_method_41_code
def yX11_isPerson : MethodName := ⟨RX11, "isPerson", "(I)Z"⟩
abbrev cX11_isOffIn : ByteArray := prog_13_method_42_code
def yX11_isOffIn : MethodName := ⟨RX11, "isOffIn", "(II)Z"⟩
abbrev cX11_plannedFor : ByteArray := prog_13_method_43_code
def yX11_plannedFor : MethodName := ⟨RX11, "plannedFor", "(I)I"⟩
abbrev cX11_isNight : ByteArray := prog_13_method_44_code
def yX11_isNight : MethodName := ⟨RX11, "isNight", "(I)Z"⟩
abbrev cX11_holderOf : ByteArray := prog_13_method_45_code
def yX11_holderOf : MethodName := ⟨RX11, "holderOf", "(I)I"⟩
abbrev cX11_wakes : ByteArray := prog_13_method_46_code
def yX11_wakes : MethodName := ⟨RX11, "wakes", "(II)V"⟩
abbrev cX11_wokenBy : ByteArray := prog_13_method_47_code
def yX11_wokenBy : MethodName := ⟨RX11, "wokenBy", "(I)I"⟩
abbrev cX11_begins : ByteArray := prog_13_method_48_code
def yX11_begins : MethodName := ⟨RX11, "begins", "(I)V"⟩
abbrev cX11_isSilent : ByteArray := prog_13_method_49_code
def yX11_isSilent : MethodName := ⟨RX11, "isSilent", "(I)Z"⟩
abbrev cX11_isRisen : ByteArray := prog_13_method_50_code
def yX11_isRisen : MethodName := ⟨RX11, "isRisen", "(I)Z"⟩
abbrev cX11_raises : ByteArray := prog_13_method_51_code
def yX11_raises : MethodName := ⟨RX11, "raises", "(I)V"⟩
abbrev cX11_pass : ByteArray := prog_13_method_52_code
def yX11_pass : MethodName := ⟨RX11, "pass", "(I)I"⟩
abbrev cX11_now : ByteArray := prog_13_method_53_code
def yX11_now : MethodName := ⟨RX11, "now", "()I"⟩
abbrev cX11_log : ByteArray := prog_13_method_54_code
def yX11_log : MethodName := ⟨RX11, "log", "(IIII)I"⟩
abbrev cX11_addPerson : ByteArray := prog_13_method_55_code
def yX11_addPerson : MethodName := ⟨RX11, "addPerson", "()I"⟩
abbrev cX11_isToCome : ByteArray := prog_13_method_56_code
def yX11_isToCome : MethodName := ⟨RX11, "isToCome", "(I)Z"⟩
abbrev cX11_off : ByteArray := prog_13_method_57_code
def yX11_off : MethodName := ⟨RX11, "off", "(II)Z"⟩
abbrev cX11_swap : ByteArray := prog_13_method_58_code
def yX11_swap : MethodName := ⟨RX11, "swap", "(II)V"⟩
abbrev cX11_planned : ByteArray := prog_13_method_59_code
def yX11_planned : MethodName := ⟨RX11, "planned", "(I)I"⟩
abbrev cX11_next : ByteArray := prog_13_method_60_code
def yX11_next : MethodName := ⟨RX11, "next", "()I"⟩
abbrev cX11_holder : ByteArray := prog_13_method_61_code
def yX11_holder : MethodName := ⟨RX11, "holder", "(I)I"⟩
abbrev cX11_nights : ByteArray := prog_13_method_62_code
def yX11_nights : MethodName := ⟨RX11, "nights", "(I)I"⟩
abbrev cX11_owes : ByteArray := prog_13_method_63_code
def yX11_owes : MethodName := ⟨RX11, "owes", "(II)I"⟩
abbrev cX11_isRule : ByteArray := prog_13_method_64_code
def yX11_isRule : MethodName := ⟨RX11, "isRule", "(I)Z"⟩
abbrev cX11_addRule : ByteArray := prog_13_method_65_code
def yX11_addRule : MethodName := ⟨RX11, "addRule", "(III)I"⟩
abbrev cX11_drop : ByteArray := prog_13_method_66_code
def yX11_drop : MethodName := ⟨RX11, "drop", "(I)I"⟩
abbrev cX11_silence : ByteArray := prog_13_method_67_code
def yX11_silence : MethodName := ⟨RX11, "silence", "(III)I"⟩
abbrev cX11_inWindow : ByteArray := prog_13_method_68_code
def yX11_inWindow : MethodName := ⟨RX11, "inWindow", "(I)I"⟩
abbrev cX11_rises : ByteArray := prog_13_method_69_code
def yX11_rises : MethodName := ⟨RX11, "rises", "(I)I"⟩
abbrev cX11_risesAnew : ByteArray := prog_13_method_70_code
def yX11_risesAnew : MethodName := ⟨RX11, "risesAnew", "(I)I"⟩
abbrev cX11_isAlarm : ByteArray := prog_13_method_71_code
def yX11_isAlarm : MethodName := ⟨RX11, "isAlarm", "(I)Z"⟩
abbrev cX11_alarms : ByteArray := prog_13_method_72_code
def yX11_alarms : MethodName := ⟨RX11, "alarms", "()I"⟩
abbrev cX11_waiting : ByteArray := prog_13_method_73_code
def yX11_waiting : MethodName := ⟨RX11, "waiting", "()I"⟩
abbrev cX11_alarm : ByteArray := prog_13_method_74_code
def yX11_alarm : MethodName := ⟨RX11, "alarm", "(I)I"⟩
abbrev cX11_woken : ByteArray := prog_13_method_75_code
def yX11_woken : MethodName := ⟨RX11, "woken", "(I)I"⟩
abbrev cX11_wokenAt : ByteArray := prog_13_method_76_code
def yX11_wokenAt : MethodName := ⟨RX11, "wokenAt", "(I)I"⟩
abbrev cX11_answer : ByteArray := prog_13_method_77_code
def yX11_answer : MethodName := ⟨RX11, "answer", "(IZ)I"⟩
abbrev cX11_wouldRise : ByteArray := prog_13_method_78_code
def yX11_wouldRise : MethodName := ⟨RX11, "wouldRise", "(I)Z"⟩
def RJ9 : String := "java/lang/Math"
abbrev cJ9_max_7cf53 : ByteArray := prog_19_method_65_code
def yJ9_max_7cf53 : MethodName := ⟨RJ9, "max", "(II)I"⟩
abbrev cJ9_min_7cf53 : ByteArray := prog_19_method_69_code
def yJ9_min_7cf53 : MethodName := ⟨RJ9, "min", "(II)I"⟩
def RJ7 : String := "java/util/Arrays"
abbrev cJ7_fill_53178 : ByteArray := prog_23_method_103_code
def yJ7_fill_53178 : MethodName := ⟨RJ7, "fill", "([II)V"⟩
def RL : String := "PagerloomLaw"
abbrev cL_type : ByteArray := method_3_code
def yL_type : MethodName := ⟨RL, "type", "(LPagerloom;C[J)I"⟩
abbrev cL_ask : ByteArray := method_4_code
def yL_ask : MethodName := ⟨RL, "ask", "(LPagerloom;II[J)I"⟩
abbrev cL_askByCodes : ByteArray := method_5_code
def yL_askByCodes : MethodName := ⟨RL, "askByCodes", "(LPagerloom;II[J)I"⟩
abbrev cL_pass : ByteArray := method_6_code
def yL_pass : MethodName := ⟨RL, "pass", "(LPagerloom;I[J)I"⟩
abbrev cL_log : ByteArray := method_7_code
def yL_log : MethodName := ⟨RL, "log", "(LPagerloom;IIII[J)I"⟩
abbrev cL_addPerson : ByteArray := method_8_code
def yL_addPerson : MethodName := ⟨RL, "addPerson", "(LPagerloom;[J)I"⟩
abbrev cL_off : ByteArray := method_9_code
def yL_off : MethodName := ⟨RL, "off", "(LPagerloom;II[J)I"⟩
abbrev cL_swap : ByteArray := method_10_code
def yL_swap : MethodName := ⟨RL, "swap", "(LPagerloom;II)I"⟩
abbrev cL_planned : ByteArray := method_11_code
def yL_planned : MethodName := ⟨RL, "planned", "(LPagerloom;I[J)I"⟩
abbrev cL_holder : ByteArray := method_12_code
def yL_holder : MethodName := ⟨RL, "holder", "(LPagerloom;I[J)I"⟩
abbrev cL_nights : ByteArray := method_13_code
def yL_nights : MethodName := ⟨RL, "nights", "(LPagerloom;I[J)I"⟩
abbrev cL_owes : ByteArray := method_14_code
def yL_owes : MethodName := ⟨RL, "owes", "(LPagerloom;II[J)I"⟩
abbrev cL_addRule : ByteArray := method_15_code
def yL_addRule : MethodName := ⟨RL, "addRule", "(LPagerloom;III[J)I"⟩
abbrev cL_drop : ByteArray := method_16_code
def yL_drop : MethodName := ⟨RL, "drop", "(LPagerloom;I[J)I"⟩
abbrev cL_silence : ByteArray := method_17_code
def yL_silence : MethodName := ⟨RL, "silence", "(LPagerloom;III[J)I"⟩
abbrev cL_inWindow : ByteArray := method_18_code
def yL_inWindow : MethodName := ⟨RL, "inWindow", "(LPagerloom;I[J)I"⟩
abbrev cL_rises : ByteArray := method_19_code
def yL_rises : MethodName := ⟨RL, "rises", "(LPagerloom;I[J)I"⟩
abbrev cL_risesAnew : ByteArray := method_20_code
def yL_risesAnew : MethodName := ⟨RL, "risesAnew", "(LPagerloom;I[J)I"⟩
abbrev cL_alarm : ByteArray := method_21_code
def yL_alarm : MethodName := ⟨RL, "alarm", "(LPagerloom;I[J)I"⟩
abbrev cL_woken : ByteArray := method_22_code
def yL_woken : MethodName := ⟨RL, "woken", "(LPagerloom;I[J)I"⟩
abbrev cL_wokenAt : ByteArray := method_23_code
def yL_wokenAt : MethodName := ⟨RL, "wokenAt", "(LPagerloom;I[J)I"⟩
abbrev cL_answer : ByteArray := method_24_code
def yL_answer : MethodName := ⟨RL, "answer", "(LPagerloom;IZ[J)I"⟩
abbrev cL_wouldRise : ByteArray := method_25_code
def yL_wouldRise : MethodName := ⟨RL, "wouldRise", "(LPagerloom;I[J)I"⟩
abbrev cL_law : ByteArray := code
def yL_law : MethodName := ⟨RL, "law", "([I)Z"⟩
abbrev vwCl : List vw_C := [(RX0, TX0, 7), (RX1, TX1, 6), (RX2, TX2, 10), (RX3, TX3, 4), (RX4, TX4, 3), (RX5, TX5, 7), (RX6, TX6, 11), (RX7, TX7, 3), (RX8, TX8, 7), (RX9, TX9, 1), (RX10, TX10, 12), (RX11, TX11, 56)]
abbrev tyD (D : DD) : List (ClassId × FieldType) := [(D.2 0, .char), (D.2 1, .int), (D.2 2, .long), (D.2 3, .boolean), (D.2 4, .object RX6)]
/-- the static cells: behind the law's first steps the cell k lies at B + k -/
def cells (D : DD) (B : Nat) (w : Bool) (σ : St) : List va_E := match w with
  | false => []
  | true => [
    .inr (10, [.ref (B + 1), .int (gI σ 1), .int (gI σ 2), .ref (B + 2), .int (gI σ 4), .ref (B + 3), .ref (B + 12), .ref (B + 18), .ref (B + 24), .ref (B + 26), .ref (B + 30), .ref (B + 34)]),
    .inl (D.2 0, 40, .inl (gA σ 1)),
    .inl (D.2 4, 4, .inr (.inr (.inr (.inr (fun j => (gQ σ 2 j).map (B + ·)))))),
    .inr (2, [.ref (B + 4), .ref (B + 5), .ref (B + 6), .ref (B + 7), .ref (B + 8), .ref (B + 9), .ref (B + 10), .ref (B + 11), .int (gI σ 200), .int (gI σ 201)]),
    .inl (D.2 1, 100, .inl (gA σ 4)),
    .inl (D.2 1, 100, .inl (gA σ 5)),
    .inl (D.2 1, 100, .inl (gA σ 6)),
    .inl (D.2 1, 100, .inl (gA σ 7)),
    .inl (D.2 1, 100, .inl (gA σ 8)),
    .inl (D.2 1, 100, .inl (gA σ 9)),
    .inl (D.2 1, 1002, .inl (gA σ 10)),
    .inl (D.2 1, 100, .inl (gA σ 11)),
    .inr (5, [.int (gI σ 768), .ref (B + 13), .ref (B + 14), .ref (B + 15), .ref (B + 16), .ref (B + 17), .int (gI σ 774)]),
    .inl (D.2 1, 126, .inl (gA σ 13)),
    .inl (D.2 1, 126, .inl (gA σ 14)),
    .inl (D.2 1, 126, .inl (gA σ 15)),
    .inl (D.2 1, 4000, .inl (gA σ 16)),
    .inl (D.2 1, 4000, .inl (gA σ 17)),
    .inr (0, [.ref (B + 19), .ref (B + 20), .ref (B + 21), .ref (B + 22), .ref (B + 23), .int (gI σ 1157), .int (gI σ 1158)]),
    .inl (D.2 1, 4000, .inl (gA σ 19)),
    .inl (D.2 1, 4000, .inl (gA σ 20)),
    .inl (D.2 1, 4000, .inl (gA σ 21)),
    .inl (D.2 1, 4000, .inl (gA σ 22)),
    .inl (D.2 3, 4000, .inl (gA σ 23)),
    .inr (4, [rfB B (gR σ 1536), .int (gI σ 1537), .int (gI σ 1538)]),
    .inl (D.2 0, 0, .inl (gA σ 25)),
    .inr (1, [.ref (B + 27), .int (gI σ 1665), .ref (B + 28), .ref (B + 29), .int (gI σ 1668), .int (gI σ 1669)]),
    .inl (D.2 1, 80, .inl (gA σ 27)),
    .inl (D.2 1, 40, .inl (gA σ 28)),
    .inl (D.2 1, 40, .inl (gA σ 29)),
    .inr (9, [.ref (B + 31)]),
    .inr (8, [.ref (B + 32), .int (gI σ 1985), .long (gL σ 1986), .int (gI σ 1987), .int (gI σ 1988), .int (gI σ 1989), .ref (B + 33)]),
    .inl (D.2 1, 100, .inl (gA σ 32)),
    .inl (D.2 1, 2001, .inl (gA σ 33)),
    .inr (7, [.ref (B + 35), .ref (B + 38), .int (gI σ 2178)]),
    .inr (8, [.ref (B + 36), .int (gI σ 2241), .long (gL σ 2242), .int (gI σ 2243), .int (gI σ 2244), .int (gI σ 2245), .ref (B + 37)]),
    .inl (D.2 1, 100, .inl (gA σ 36)),
    .inl (D.2 1, 2001, .inl (gA σ 37)),
    .inl (D.2 2, 40, .inr (.inl (gJ σ 38))),
    .inr (11, [.ref (B + 40), .int (gI σ 2497), .ref (B + 41), .ref (B + 42), .ref (B + 43), .ref (B + 44), .ref (B + 45), .ref (B + 46), .int (gI σ 2504), .int (gI σ 2505), .int (gI σ 2506), .int (gI σ 2507), .int (gI σ 2508), .int (gI σ 2509), .int (gI σ 2510), .int (gI σ 2511), .int (gI σ 2512), .int (gI σ 2513), .ref (B + 47), .int (gI σ 2515), .ref (B + 48), .int (gI σ 2517), .int (gI σ 2518), .int (gI σ 2519), .ref (B + 49), .ref (B + 50), .int (gI σ 2522), .ref (B + 51), .int (gI σ 2524), .int (gI σ 2525), .int (gI σ 2526), .int (gI σ 2527), .ref (B + 52), .ref (B + 53), .ref (B + 54), .ref (B + 55), .int (gI σ 2532), .ref (B + 56), .ref (B + 57), .ref (B + 58), .int (gI σ 2536), .ref (B + 59), .ref (B + 60), .ref (B + 61), .ref (B + 62), .ref (B + 63), .ref (B + 64), .ref (B + 65), .ref (B + 66), .ref (B + 67), .int (gI σ 2546), .ref (B + 68), .int (gI σ 2548), .ref (B + 69), .int (gI σ 2550), .int (gI σ 2551)]),
    .inl (D.2 1, 40, .inl (gA σ 40)),
    .inl (D.2 1, 320, .inl (gA σ 41)),
    .inl (D.2 1, 320, .inl (gA σ 42)),
    .inl (D.2 1, 5, .inl (gA σ 43)),
    .inl (D.2 1, 320, .inl (gA σ 44)),
    .inl (D.2 1, 320, .inl (gA σ 45)),
    .inl (D.2 1, 5, .inl (gA σ 46)),
    .inl (D.2 1, 64, .inl (gA σ 47)),
    .inl (D.2 1, 64, .inl (gA σ 48)),
    .inl (D.2 3, 64, .inl (gA σ 49)),
    .inl (D.2 2, 64, .inr (.inl (gJ σ 50))),
    .inl (D.2 3, 64, .inl (gA σ 51)),
    .inl (D.2 1, 100, .inl (gA σ 52)),
    .inl (D.2 1, 100, .inl (gA σ 53)),
    .inl (D.2 1, 100, .inl (gA σ 54)),
    .inl (D.2 1, 100, .inl (gA σ 55)),
    .inl (D.2 3, 1008, .inl (gA σ 56)),
    .inl (D.2 1, 126, .inl (gA σ 57)),
    .inl (D.2 1, 126, .inl (gA σ 58)),
    .inl (D.2 1, 4, .inl (gA σ 59)),
    .inl (D.2 1, 4, .inl (gA σ 60)),
    .inl (D.2 1, 4, .inl (gA σ 61)),
    .inl (D.2 3, 4, .inl (gA σ 62)),
    .inl (D.2 1, 4, .inl (gA σ 63)),
    .inl (D.2 1, 4, .inl (gA σ 64)),
    .inl (D.2 1, 4, .inl (gA σ 65)),
    .inl (D.2 1, 20, .inl (gA σ 66)),
    .inl (D.2 1, 20, .inl (gA σ 67)),
    .inl (D.2 1, 4000, .inl (gA σ 68)),
    .inl (D.2 1, 4000, .inl (gA σ 69)),
    .inl (D.2 2, 1, .inr (.inl (gJ σ 70)))]
