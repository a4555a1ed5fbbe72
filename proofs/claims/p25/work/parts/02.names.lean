def RX0 : String := "WatchdogBoard$Board"
def TX0 : u_T := fun k => match k with
  | 0 => ("WatchdogBoard$Board", "rules", "[I", true)
  | 1 => ("WatchdogBoard$Board", "tasks", "[LWatchdogBoard$Task;", true)
  | 2 => ("WatchdogBoard$Board", "book", "LWatchdogBoard$Book;", true)
  | 3 => ("WatchdogBoard$Board", "taskCount", "I", false)
  | 4 => ("WatchdogBoard$Board", "time", "I", false)
  | 5 => ("WatchdogBoard$Board", "mode", "I", false)
  | 6 => ("WatchdogBoard$Board", "image", "I", false)
  | 7 => ("WatchdogBoard$Board", "attempts", "I", false)
  | 8 => ("WatchdogBoard$Board", "bootLeft", "I", false)
  | 9 => ("WatchdogBoard$Board", "u", "I", false)
  | 10 => ("WatchdogBoard$Board", "elapsed", "I", false)
  | 11 => ("WatchdogBoard$Board", "runs", "I", false)
  | _ => ("WatchdogBoard$Board", "expiredRuns", "I", false)
def tyX0 : Nat → FieldType := fun k => match k with
  | 0 => .array .int
  | 1 => .array (.object "WatchdogBoard$Task")
  | 2 => .object "WatchdogBoard$Book"
  | 3 => .int
  | 4 => .int
  | 5 => .int
  | 6 => .int
  | 7 => .int
  | 8 => .int
  | 9 => .int
  | 10 => .int
  | 11 => .int
  | _ => .int
abbrev wsX00 : List Cond := u_ws RX0 TX0 13
theorem nmX0 : ∀ a, a < 13 → ∀ b, b < 13 → a ≠ b → (TX0 a).2.1 ≠ (TX0 b).2.1 := by decide +kernel
theorem tyX0_ok : ∀ k, k < 13 → parseFieldDescriptor (TX0 k).2.2.1 = some (tyX0 k) := by decide +kernel
abbrev cX0_init : ByteArray := prog_2_method_1_code
def yX0_init : MethodName := ⟨RX0, "<init>", "()V"⟩
abbrev cX0_become : ByteArray := prog_2_method_2_code
def yX0_become : MethodName := ⟨RX0, "become", "(LWatchdogBoard$Board;)V"⟩
abbrev cX0_switchOffAndOn : ByteArray := prog_2_method_4_code
def yX0_switchOffAndOn : MethodName := ⟨RX0, "switchOffAndOn", "()V"⟩
abbrev cX0_boot : ByteArray := prog_2_method_5_code
def yX0_boot : MethodName := ⟨RX0, "boot", "()V"⟩
abbrev cX0_ifRunning : ByteArray := prog_2_method_6_code
def yX0_ifRunning : MethodName := ⟨RX0, "ifRunning", "(I)I"⟩
abbrev cX0_expiredSet : ByteArray := prog_2_method_7_code
def yX0_expiredSet : MethodName := ⟨RX0, "expiredSet", "()I"⟩
abbrev cX0_lowestExpired : ByteArray := prog_2_method_8_code
def yX0_lowestExpired : MethodName := ⟨RX0, "lowestExpired", "()I"⟩
abbrev cX0_ticksToReset : ByteArray := prog_2_method_9_code
def yX0_ticksToReset : MethodName := ⟨RX0, "ticksToReset", "(I)I"⟩
abbrev cX0_tick : ByteArray := prog_2_method_10_code
def yX0_tick : MethodName := ⟨RX0, "tick", "()Z"⟩
abbrev cX0_tickBooting : ByteArray := prog_2_method_11_code
def yX0_tickBooting : MethodName := ⟨RX0, "tickBooting", "()V"⟩
abbrev cX0_tickRunning : ByteArray := prog_2_method_12_code
def yX0_tickRunning : MethodName := ⟨RX0, "tickRunning", "()Z"⟩
abbrev cX0_supervise : ByteArray := prog_2_method_13_code
def yX0_supervise : MethodName := ⟨RX0, "supervise", "()Z"⟩
abbrev cX0_watch : ByteArray := prog_2_method_14_code
def yX0_watch : MethodName := ⟨RX0, "watch", "(Z)I"⟩
abbrev cX0_fall : ByteArray := prog_2_method_15_code
def yX0_fall : MethodName := ⟨RX0, "fall", "(II)V"⟩
def RX1 : String := "WatchdogBoard$Book"
def TX1 : u_T := fun k => match k with
  | 0 => ("WatchdogBoard$Book", "cells", "[I", true)
  | _ => ("WatchdogBoard$Book", "count", "I", false)
def tyX1 : Nat → FieldType := fun k => match k with
  | 0 => .array .int
  | _ => .int
abbrev wsX10 : List Cond := u_ws RX1 TX1 2
theorem nmX1 : ∀ a, a < 2 → ∀ b, b < 2 → a ≠ b → (TX1 a).2.1 ≠ (TX1 b).2.1 := by decide +kernel
theorem tyX1_ok : ∀ k, k < 2 → parseFieldDescriptor (TX1 k).2.2.1 = some (tyX1 k) := by decide +kernel
abbrev cX1_init : ByteArray := prog_3_method_1_code
def yX1_init : MethodName := ⟨RX1, "<init>", "()V"⟩
abbrev cX1_add : ByteArray := prog_3_method_2_code
def yX1_add : MethodName := ⟨RX1, "add", "(IIIII)V"⟩
abbrev cX1_property : ByteArray := prog_3_method_3_code
def yX1_property : MethodName := ⟨RX1, "property", "(II)I"⟩
abbrev cX1_become : ByteArray := prog_3_method_4_code
def yX1_become : MethodName := ⟨RX1, "become", "(LWatchdogBoard$Book;)V"⟩
def RX2 : String := "WatchdogBoard$Pad"
def TX2 : u_T := fun k => match k with
  | 0 => ("WatchdogBoard$Pad", "signs", "[C", true)
  | 1 => ("WatchdogBoard$Pad", "length", "I", false)
  | 2 => ("WatchdogBoard$Pad", "at", "I", false)
  | 3 => ("WatchdogBoard$Pad", "found", "I", false)
  | 4 => ("WatchdogBoard$Pad", "faultKinds", "[I", true)
  | 5 => ("WatchdogBoard$Pad", "faultTasks", "[I", true)
  | 6 => ("WatchdogBoard$Pad", "faultStarts", "[I", true)
  | 7 => ("WatchdogBoard$Pad", "faultAmounts", "[I", true)
  | _ => ("WatchdogBoard$Pad", "faultImages", "[I", true)
def tyX2 : Nat → FieldType := fun k => match k with
  | 0 => .array .char
  | 1 => .int
  | 2 => .int
  | 3 => .int
  | 4 => .array .int
  | 5 => .array .int
  | 6 => .array .int
  | 7 => .array .int
  | _ => .array .int
abbrev wsX20 : List Cond := u_ws RX2 TX2 9
theorem nmX2 : ∀ a, a < 9 → ∀ b, b < 9 → a ≠ b → (TX2 a).2.1 ≠ (TX2 b).2.1 := by decide +kernel
theorem tyX2_ok : ∀ k, k < 9 → parseFieldDescriptor (TX2 k).2.2.1 = some (tyX2 k) := by decide +kernel
abbrev cX2_init : ByteArray := prog_4_method_1_code
def yX2_init : MethodName := ⟨RX2, "<init>", "()V"⟩
def RX3 : String := "WatchdogBoard$Task"
def TX3 : u_T := fun k => match k with
  | 0 => ("WatchdogBoard$Task", "settings", "[I", true)
  | 1 => ("WatchdogBoard$Task", "faultKinds", "[I", true)
  | 2 => ("WatchdogBoard$Task", "faultStarts", "[I", true)
  | 3 => ("WatchdogBoard$Task", "faultAmounts", "[I", true)
  | 4 => ("WatchdogBoard$Task", "hasJob", "Z", false)
  | 5 => ("WatchdogBoard$Task", "hangs", "Z", false)
  | 6 => ("WatchdogBoard$Task", "begin", "I", false)
  | 7 => ("WatchdogBoard$Task", "left", "I", false)
  | 8 => ("WatchdogBoard$Task", "alive", "I", false)
  | 9 => ("WatchdogBoard$Task", "failures", "I", false)
  | 10 => ("WatchdogBoard$Task", "isLate", "Z", false)
  | 11 => ("WatchdogBoard$Task", "isExpired", "Z", false)
  | 12 => ("WatchdogBoard$Task", "badCycles", "I", false)
  | 13 => ("WatchdogBoard$Task", "isLatched", "Z", false)
  | 14 => ("WatchdogBoard$Task", "latchTime", "I", false)
  | _ => ("WatchdogBoard$Task", "resets", "I", false)
def tyX3 : Nat → FieldType := fun k => match k with
  | 0 => .array .int
  | 1 => .array .int
  | 2 => .array .int
  | 3 => .array .int
  | 4 => .boolean
  | 5 => .boolean
  | 6 => .int
  | 7 => .int
  | 8 => .int
  | 9 => .int
  | 10 => .boolean
  | 11 => .boolean
  | 12 => .int
  | 13 => .boolean
  | 14 => .int
  | _ => .int
abbrev wsX30 : List Cond := u_ws RX3 TX3 16
theorem nmX3 : ∀ a, a < 16 → ∀ b, b < 16 → a ≠ b → (TX3 a).2.1 ≠ (TX3 b).2.1 := by decide +kernel
theorem tyX3_ok : ∀ k, k < 16 → parseFieldDescriptor (TX3 k).2.2.1 = some (tyX3 k) := by decide +kernel
abbrev cX3_init : ByteArray := prog_5_method_1_code
def yX3_init : MethodName := ⟨RX3, "<init>", "()V"⟩
abbrev cX3_becomeNew : ByteArray := prog_5_method_2_code
def yX3_becomeNew : MethodName := ⟨RX3, "becomeNew", "(II)V"⟩
abbrev cX3_become : ByteArray := prog_5_method_3_code
def yX3_become : MethodName := ⟨RX3, "become", "(LWatchdogBoard$Task;)V"⟩
abbrev cX3_takeFault : ByteArray := prog_5_method_4_code
def yX3_takeFault : MethodName := ⟨RX3, "takeFault", "(IIII)V"⟩
abbrev cX3_beginRun : ByteArray := prog_5_method_5_code
def yX3_beginRun : MethodName := ⟨RX3, "beginRun", "()V"⟩
abbrev cX3_clearDiagnostic : ByteArray := prog_5_method_6_code
def yX3_clearDiagnostic : MethodName := ⟨RX3, "clearDiagnostic", "()V"⟩
abbrev cX3_momentary : ByteArray := prog_5_method_7_code
def yX3_momentary : MethodName := ⟨RX3, "momentary", "(I)I"⟩
abbrev cX3_crashesInTick : ByteArray := prog_5_method_8_code
def yX3_crashesInTick : MethodName := ⟨RX3, "crashesInTick", "(II)Z"⟩
abbrev cX3_crashesAtBegin : ByteArray := prog_5_method_9_code
def yX3_crashesAtBegin : MethodName := ⟨RX3, "crashesAtBegin", "(II)Z"⟩
abbrev cX3_endCycle : ByteArray := prog_5_method_10_code
def yX3_endCycle : MethodName := ⟨RX3, "endCycle", "(I)V"⟩
def RX4 : String := "WatchdogBoard"
def TX4 : u_T := fun k => match k with
  | 0 => ("WatchdogBoard", "board", "LWatchdogBoard$Board;", true)
  | 1 => ("WatchdogBoard", "trial", "LWatchdogBoard$Board;", true)
  | 2 => ("WatchdogBoard", "slots", "[LWatchdogBoard$Board;", true)
  | 3 => ("WatchdogBoard", "isSaved", "[Z", true)
  | _ => ("WatchdogBoard", "pad", "LWatchdogBoard$Pad;", true)
def tyX4 : Nat → FieldType := fun k => match k with
  | 0 => .object "WatchdogBoard$Board"
  | 1 => .object "WatchdogBoard$Board"
  | 2 => .array (.object "WatchdogBoard$Board")
  | 3 => .array .boolean
  | _ => .object "WatchdogBoard$Pad"
abbrev wsX40 : List Cond := u_ws RX4 TX4 5
theorem nmX4 : ∀ a, a < 5 → ∀ b, b < 5 → a ≠ b → (TX4 a).2.1 ≠ (TX4 b).2.1 := by decide +kernel
theorem tyX4_ok : ∀ k, k < 5 → parseFieldDescriptor (TX4 k).2.2.1 = some (tyX4 k) := by decide +kernel
abbrev cX4_init : ByteArray := prog_1_method_1_code
def yX4_init : MethodName := ⟨RX4, "<init>", "()V"⟩
abbrev cX4_rule : ByteArray := prog_1_method_2_code
def yX4_rule : MethodName := ⟨RX4, "rule", "(II)I"⟩
abbrev cX4_addTask : ByteArray := prog_1_method_3_code
def yX4_addTask : MethodName := ⟨RX4, "addTask", "(II)I"⟩
abbrev cX4_set : ByteArray := prog_1_method_4_code
def yX4_set : MethodName := ⟨RX4, "set", "(III)I"⟩
abbrev cX4_putFault : ByteArray := prog_1_method_5_code
def yX4_putFault : MethodName := ⟨RX4, "putFault", "(IIIII)I"⟩
abbrev cX4_run : ByteArray := prog_1_method_10_code
def yX4_run : MethodName := ⟨RX4, "run", "(I)I"⟩
abbrev cX4_powerCycle : ByteArray := prog_1_method_14_code
def yX4_powerCycle : MethodName := ⟨RX4, "powerCycle", "()I"⟩
abbrev cX4_state : ByteArray := prog_1_method_15_code
def yX4_state : MethodName := ⟨RX4, "state", "(I)I"⟩
abbrev cX4_task : ByteArray := prog_1_method_16_code
def yX4_task : MethodName := ⟨RX4, "task", "(II)I"⟩
abbrev cX4_record : ByteArray := prog_1_method_17_code
def yX4_record : MethodName := ⟨RX4, "record", "(II)I"⟩
abbrev cX4_forecast : ByteArray := prog_1_method_19_code
def yX4_forecast : MethodName := ⟨RX4, "forecast", "(I)I"⟩
abbrev cX4_hasTask : ByteArray := prog_1_method_24_code
def yX4_hasTask : MethodName := ⟨RX4, "hasTask", "(I)Z"⟩
abbrev cX4_isWithin : ByteArray := prog_1_method_27_code
def yX4_isWithin : MethodName := ⟨RX4, "isWithin", "(III)Z"⟩
abbrev cX4_isAllowed : ByteArray := prog_1_method_28_code
def yX4_isAllowed : MethodName := ⟨RX4, "isAllowed", "(II[I[I)Z"⟩
abbrev cX4_divides : ByteArray := prog_1_method_29_code
def yX4_divides : MethodName := ⟨RX4, "divides", "(II)Z"⟩
def RX5 : String := "WatchdogBoardModel"
def TX5 : u_T := fun k => match k with
  | _ => ("", "", "", false)
def tyX5 : Nat → FieldType := fun k => match k with
  | _ => .int
abbrev wsX50 : List Cond := u_ws RX5 TX5 0
theorem nmX5 : ∀ a, a < 0 → ∀ b, b < 0 → a ≠ b → (TX5 a).2.1 ≠ (TX5 b).2.1 := by decide +kernel
theorem tyX5_ok : ∀ k, k < 0 → parseFieldDescriptor (TX5 k).2.2.1 = some (tyX5 k) := by decide +kernel
def RJx8e188 : String := "java/lang/Cloneable"
def TJx8e188 : u_T := fun k => match k with
  | _ => ("", "", "", false)
def tyJx8e188 : Nat → FieldType := fun k => match k with
  | _ => .int
abbrev wsJx8e1880 : List Cond := u_ws RJx8e188 TJx8e188 0
theorem nmJx8e188 : ∀ a, a < 0 → ∀ b, b < 0 → a ≠ b → (TJx8e188 a).2.1 ≠ (TJx8e188 b).2.1 := by decide +kernel
theorem tyJx8e188_ok : ∀ k, k < 0 → parseFieldDescriptor (TJx8e188 k).2.2.1 = some (tyJx8e188 k) := by decide +kernel
def RJ9 : String := "java/lang/Math"
def TJ9 : u_T := fun k => match k with
  | _ => ("", "", "", false)
def tyJ9 : Nat → FieldType := fun k => match k with
  | _ => .int
abbrev wsJ90 : List Cond := u_ws RJ9 TJ9 0
theorem nmJ9 : ∀ a, a < 0 → ∀ b, b < 0 → a ≠ b → (TJ9 a).2.1 ≠ (TJ9 b).2.1 := by decide +kernel
theorem tyJ9_ok : ∀ k, k < 0 → parseFieldDescriptor (TJ9 k).2.2.1 = some (tyJ9 k) := by decide +kernel
abbrev cJ9_max_7cf53 : ByteArray := prog_9_method_65_code
def yJ9_max_7cf53 : MethodName := ⟨RJ9, "max", "(II)I"⟩
def RJ10 : String := "java/lang/System"
def TJ10 : u_T := fun k => match k with
  | _ => ("", "", "", false)
def tyJ10 : Nat → FieldType := fun k => match k with
  | _ => .int
abbrev wsJ100 : List Cond := u_ws RJ10 TJ10 0
theorem nmJ10 : ∀ a, a < 0 → ∀ b, b < 0 → a ≠ b → (TJ10 a).2.1 ≠ (TJ10 b).2.1 := by decide +kernel
theorem tyJ10_ok : ∀ k, k < 0 → parseFieldDescriptor (TJ10 k).2.2.1 = some (tyJ10 k) := by decide +kernel
def RL : String := "WatchdogBoardLaw"
abbrev cL_cell : ByteArray := method_2_code
def yL_cell : MethodName := ⟨RL, "cell", "([III)I"⟩
abbrev cL_anew : ByteArray := method_3_code
def yL_anew : MethodName := ⟨RL, "anew", "([I[I)V"⟩
abbrev cL_reset : ByteArray := method_4_code
def yL_reset : MethodName := ⟨RL, "reset", "(LWatchdogBoard;[I[IIII)V"⟩
abbrev cL_crashes : ByteArray := method_5_code
def yL_crashes : MethodName := ⟨RL, "crashes", "(LWatchdogBoard;[I[I[II)Z"⟩
abbrev cL_kicks : ByteArray := method_6_code
def yL_kicks : MethodName := ⟨RL, "kicks", "(LWatchdogBoard;[I[II)Z"⟩
abbrev cL_tick : ByteArray := method_7_code
def yL_tick : MethodName := ⟨RL, "tick", "(LWatchdogBoard;[I[I[III)V"⟩
abbrev cL_isTold : ByteArray := method_8_code
def yL_isTold : MethodName := ⟨RL, "isTold", "(LWatchdogBoard;[I[II)Z"⟩
abbrev cL_law : ByteArray := code
def yL_law : MethodName := ⟨RL, "law", "([I)Z"⟩
