section
-- ===== PART A: goes FIRST, ahead of the names: the tables' words, and 'selects' of the private methods out of them =====
/-- a private method of a class that the tables say can be made, by its rows of tables_1 -/
def lw_okq (q : MethodName × Nat) : Prop := (q.1.cls ≠ "java/lang/invoke/MethodHandle" ∧ q.1.cls ≠ "java/lang/invoke/VarHandle") ∧ Cond.instantiable q.1.cls q.2 ∈ tables_1 ∧ Cond.privateMethod q.1 ∈ tables_1 ∧ Cond.instanceMethod q.1 ∈ tables_1
theorem lw_p0 : lw_okq (⟨"WatchdogBoard", "hasTask", "(I)Z"⟩, 5) := ⟨⟨by decide +kernel, by decide +kernel⟩, List.mem_of_getElem? (i := 9) (by decide +kernel), List.mem_of_getElem? (i := 268) (by decide +kernel), List.mem_of_getElem? (i := 269) (by decide +kernel)⟩
theorem lw_p1 : lw_okq (⟨"WatchdogBoard$Board", "tickBooting", "()V"⟩, 13) := ⟨⟨by decide +kernel, by decide +kernel⟩, List.mem_of_getElem? (i := 17) (by decide +kernel), List.mem_of_getElem? (i := 286) (by decide +kernel), List.mem_of_getElem? (i := 287) (by decide +kernel)⟩
theorem lw_p2 : lw_okq (⟨"WatchdogBoard$Board", "tickRunning", "()Z"⟩, 13) := ⟨⟨by decide +kernel, by decide +kernel⟩, List.mem_of_getElem? (i := 17) (by decide +kernel), List.mem_of_getElem? (i := 291) (by decide +kernel), List.mem_of_getElem? (i := 292) (by decide +kernel)⟩
theorem lw_p3 : lw_okq (⟨"WatchdogBoard$Task", "crashesAtBegin", "(II)Z"⟩, 16) := ⟨⟨by decide +kernel, by decide +kernel⟩, List.mem_of_getElem? (i := 48) (by decide +kernel), List.mem_of_getElem? (i := 302) (by decide +kernel), List.mem_of_getElem? (i := 303) (by decide +kernel)⟩
theorem lw_p4 : lw_okq (⟨"WatchdogBoard$Board", "boot", "()V"⟩, 13) := ⟨⟨by decide +kernel, by decide +kernel⟩, List.mem_of_getElem? (i := 17) (by decide +kernel), List.mem_of_getElem? (i := 314) (by decide +kernel), List.mem_of_getElem? (i := 315) (by decide +kernel)⟩
theorem lw_p5 : lw_okq (⟨"WatchdogBoard$Board", "supervise", "()Z"⟩, 13) := ⟨⟨by decide +kernel, by decide +kernel⟩, List.mem_of_getElem? (i := 17) (by decide +kernel), List.mem_of_getElem? (i := 319) (by decide +kernel), List.mem_of_getElem? (i := 320) (by decide +kernel)⟩
theorem lw_p6 : lw_okq (⟨"WatchdogBoard$Board", "watch", "(Z)I"⟩, 13) := ⟨⟨by decide +kernel, by decide +kernel⟩, List.mem_of_getElem? (i := 17) (by decide +kernel), List.mem_of_getElem? (i := 335) (by decide +kernel), List.mem_of_getElem? (i := 336) (by decide +kernel)⟩
def lw_privs_1 : List (MethodName × Nat) := [(⟨"WatchdogBoard", "hasTask", "(I)Z"⟩, 5), (⟨"WatchdogBoard$Board", "tickBooting", "()V"⟩, 13), (⟨"WatchdogBoard$Board", "tickRunning", "()Z"⟩, 13), (⟨"WatchdogBoard$Task", "crashesAtBegin", "(II)Z"⟩, 16), (⟨"WatchdogBoard$Board", "boot", "()V"⟩, 13), (⟨"WatchdogBoard$Board", "supervise", "()Z"⟩, 13), (⟨"WatchdogBoard$Board", "watch", "(Z)I"⟩, 13)]
theorem lw_r1 : ∀ q ∈ lw_privs_1, lw_okq q := List.forall_mem_cons.mpr ⟨lw_p0, List.forall_mem_cons.mpr ⟨lw_p1, List.forall_mem_cons.mpr ⟨lw_p2, List.forall_mem_cons.mpr ⟨lw_p3, List.forall_mem_cons.mpr ⟨lw_p4, List.forall_mem_cons.mpr ⟨lw_p5, List.forall_mem_cons.mpr ⟨lw_p6, fun _ h => absurd h List.not_mem_nil⟩⟩⟩⟩⟩⟩⟩
def lw_privs : List (MethodName × Nat) := lw_privs_1
def lw_tbl : List Cond := k2_sels lw_privs ++ tables_1
theorem lw_privs_ok : ∀ q ∈ lw_privs, lw_okq q := lw_r1
end
section
def RX0 : String := "WatchdogBoard$Board"
def TX0 : u_T := fun k => match k with
  | 0 => ("WatchdogBoard$Board", "rules", "[I", true)
  | 1 => ("WatchdogBoard$Board", "tasks", "[LWatchdogBoard$Task;", true)
  | 2 => ("WatchdogBoard$Board", "book", "LWatchdogBoard$Book;", true)
  | 3 => ("WatchdogBoard$Board", "taskCount", "I", false)
  | 4 => ("WatchdogBoard$Board", "time", "I", false)
  | 5 => ("WatchdogBoard$Board", "mode", "I", false)
  | 6 => ("WatchdogBoard$Board", "image", "I", false)
  | 7 => ("WatchdogBoard$Board", "attempts", "I", false)
  | 8 => ("WatchdogBoard$Board", "bootLeft", "I", false)
  | 9 => ("WatchdogBoard$Board", "u", "I", false)
  | 10 => ("WatchdogBoard$Board", "elapsed", "I", false)
  | 11 => ("WatchdogBoard$Board", "runs", "I", false)
  | _ => ("WatchdogBoard$Board", "expiredRuns", "I", false)
def tyX0 : Nat → FieldType := fun k => match k with
  | 0 => .array .int
  | 1 => .array (.object "WatchdogBoard$Task")
  | 2 => .object "WatchdogBoard$Book"
  | 3 => .int
  | 4 => .int
  | 5 => .int
  | 6 => .int
  | 7 => .int
  | 8 => .int
  | 9 => .int
  | 10 => .int
  | 11 => .int
  | _ => .int
abbrev wsX00 : List Cond := u_ws RX0 TX0 13
theorem nmX0 : ∀ a, a < 13 → ∀ b, b < 13 → a ≠ b → (TX0 a).2.1 ≠ (TX0 b).2.1 := by decide +kernel
theorem tyX0_ok : ∀ k, k < 13 → parseFieldDescriptor (TX0 k).2.2.1 = some (tyX0 k) := by decide +kernel
abbrev cX0_init : ByteArray := prog_2_method_1_code
def yX0_init : MethodName := ⟨RX0, "<init>", "()V"⟩
abbrev cX0_become : ByteArray := prog_2_method_2_code
def yX0_become : MethodName := ⟨RX0, "become", "(LWatchdogBoard$Board;)V"⟩
abbrev cX0_switchOffAndOn : ByteArray := prog_2_method_4_code
def yX0_switchOffAndOn : MethodName := ⟨RX0, "switchOffAndOn", "()V"⟩
abbrev cX0_boot : ByteArray := prog_2_method_5_code
def yX0_boot : MethodName := ⟨RX0, "boot", "()V"⟩
abbrev cX0_ifRunning : ByteArray := prog_2_method_6_code
def yX0_ifRunning : MethodName := ⟨RX0, "ifRunning", "(I)I"⟩
abbrev cX0_expiredSet : ByteArray := prog_2_method_7_code
def yX0_expiredSet : MethodName := ⟨RX0, "expiredSet", "()I"⟩
abbrev cX0_lowestExpired : ByteArray := prog_2_method_8_code
def yX0_lowestExpired : MethodName := ⟨RX0, "lowestExpired", "()I"⟩
abbrev cX0_ticksToReset : ByteArray := prog_2_method_9_code
def yX0_ticksToReset : MethodName := ⟨RX0, "ticksToReset", "(I)I"⟩
abbrev cX0_tick : ByteArray := prog_2_method_10_code
def yX0_tick : MethodName := ⟨RX0, "tick", "()Z"⟩
abbrev cX0_tickBooting : ByteArray := prog_2_method_11_code
def yX0_tickBooting : MethodName := ⟨RX0, "tickBooting", "()V"⟩
abbrev cX0_tickRunning : ByteArray := prog_2_method_12_code
def yX0_tickRunning : MethodName := ⟨RX0, "tickRunning", "()Z"⟩
abbrev cX0_supervise : ByteArray := prog_2_method_13_code
def yX0_supervise : MethodName := ⟨RX0, "supervise", "()Z"⟩
abbrev cX0_watch : ByteArray := prog_2_method_14_code
def yX0_watch : MethodName := ⟨RX0, "watch", "(Z)I"⟩
abbrev cX0_fall : ByteArray := prog_2_method_15_code
def yX0_fall : MethodName := ⟨RX0, "fall", "(II)V"⟩
def RX1 : String := "WatchdogBoard$Book"
def TX1 : u_T := fun k => match k with
  | 0 => ("WatchdogBoard$Book", "cells", "[I", true)
  | _ => ("WatchdogBoard$Book", "count", "I", false)
def tyX1 : Nat → FieldType := fun k => match k with
  | 0 => .array .int
  | _ => .int
abbrev wsX10 : List Cond := u_ws RX1 TX1 2
theorem nmX1 : ∀ a, a < 2 → ∀ b, b < 2 → a ≠ b → (TX1 a).2.1 ≠ (TX1 b).2.1 := by decide +kernel
theorem tyX1_ok : ∀ k, k < 2 → parseFieldDescriptor (TX1 k).2.2.1 = some (tyX1 k) := by decide +kernel
abbrev cX1_init : ByteArray := prog_3_method_1_code
def yX1_init : MethodName := ⟨RX1, "<init>", "()V"⟩
abbrev cX1_add : ByteArray := prog_3_method_2_code
def yX1_add : MethodName := ⟨RX1, "add", "(IIIII)V"⟩
abbrev cX1_property : ByteArray := prog_3_method_3_code
def yX1_property : MethodName := ⟨RX1, "property", "(II)I"⟩
abbrev cX1_become : ByteArray := prog_3_method_4_code
def yX1_become : MethodName := ⟨RX1, "become", "(LWatchdogBoard$Book;)V"⟩
def RX2 : String := "WatchdogBoard$Pad"
def TX2 : u_T := fun k => match k with
  | 0 => ("WatchdogBoard$Pad", "signs", "[C", true)
  | 1 => ("WatchdogBoard$Pad", "length", "I", false)
  | 2 => ("WatchdogBoard$Pad", "at", "I", false)
  | 3 => ("WatchdogBoard$Pad", "found", "I", false)
  | 4 => ("WatchdogBoard$Pad", "faultKinds", "[I", true)
  | 5 => ("WatchdogBoard$Pad", "faultTasks", "[I", true)
  | 6 => ("WatchdogBoard$Pad", "faultStarts", "[I", true)
  | 7 => ("WatchdogBoard$Pad", "faultAmounts", "[I", true)
  | _ => ("WatchdogBoard$Pad", "faultImages", "[I", true)
def tyX2 : Nat → FieldType := fun k => match k with
  | 0 => .array .char
  | 1 => .int
  | 2 => .int
  | 3 => .int
  | 4 => .array .int
  | 5 => .array .int
  | 6 => .array .int
  | 7 => .array .int
  | _ => .array .int
abbrev wsX20 : List Cond := u_ws RX2 TX2 9
theorem nmX2 : ∀ a, a < 9 → ∀ b, b < 9 → a ≠ b → (TX2 a).2.1 ≠ (TX2 b).2.1 := by decide +kernel
theorem tyX2_ok : ∀ k, k < 9 → parseFieldDescriptor (TX2 k).2.2.1 = some (tyX2 k) := by decide +kernel
abbrev cX2_init : ByteArray := prog_4_method_1_code
def yX2_init : MethodName := ⟨RX2, "<init>", "()V"⟩
def RX3 : String := "WatchdogBoard$Task"
def TX3 : u_T := fun k => match k with
  | 0 => ("WatchdogBoard$Task", "settings", "[I", true)
  | 1 => ("WatchdogBoard$Task", "faultKinds", "[I", true)
  | 2 => ("WatchdogBoard$Task", "faultStarts", "[I", true)
  | 3 => ("WatchdogBoard$Task", "faultAmounts", "[I", true)
  | 4 => ("WatchdogBoard$Task", "hasJob", "Z", false)
  | 5 => ("WatchdogBoard$Task", "hangs", "Z", false)
  | 6 => ("WatchdogBoard$Task", "begin", "I", false)
  | 7 => ("WatchdogBoard$Task", "left", "I", false)
  | 8 => ("WatchdogBoard$Task", "alive", "I", false)
  | 9 => ("WatchdogBoard$Task", "failures", "I", false)
  | 10 => ("WatchdogBoard$Task", "isLate", "Z", false)
  | 11 => ("WatchdogBoard$Task", "isExpired", "Z", false)
  | 12 => ("WatchdogBoard$Task", "badCycles", "I", false)
  | 13 => ("WatchdogBoard$Task", "isLatched", "Z", false)
  | 14 => ("WatchdogBoard$Task", "latchTime", "I", false)
  | _ => ("WatchdogBoard$Task", "resets", "I", false)
def tyX3 : Nat → FieldType := fun k => match k with
  | 0 => .array .int
  | 1 => .array .int
  | 2 => .array .int
  | 3 => .array .int
  | 4 => .boolean
  | 5 => .boolean
  | 6 => .int
  | 7 => .int
  | 8 => .int
  | 9 => .int
  | 10 => .boolean
  | 11 => .boolean
  | 12 => .int
  | 13 => .boolean
  | 14 => .int
  | _ => .int
abbrev wsX30 : List Cond := u_ws RX3 TX3 16
theorem nmX3 : ∀ a, a < 16 → ∀ b, b < 16 → a ≠ b → (TX3 a).2.1 ≠ (TX3 b).2.1 := by decide +kernel
theorem tyX3_ok : ∀ k, k < 16 → parseFieldDescriptor (TX3 k).2.2.1 = some (tyX3 k) := by decide +kernel
abbrev cX3_init : ByteArray := prog_5_method_1_code
def yX3_init : MethodName := ⟨RX3, "<init>", "()V"⟩
abbrev cX3_becomeNew : ByteArray := prog_5_method_2_code
def yX3_becomeNew : MethodName := ⟨RX3, "becomeNew", "(II)V"⟩
abbrev cX3_become : ByteArray := prog_5_method_3_code
def yX3_become : MethodName := ⟨RX3, "become", "(LWatchdogBoard$Task;)V"⟩
abbrev cX3_takeFault : ByteArray := prog_5_method_4_code
def yX3_takeFault : MethodName := ⟨RX3, "takeFault", "(IIII)V"⟩
abbrev cX3_beginRun : ByteArray := prog_5_method_5_code
def yX3_beginRun : MethodName := ⟨RX3, "beginRun", "()V"⟩
abbrev cX3_clearDiagnostic : ByteArray := prog_5_method_6_code
def yX3_clearDiagnostic : MethodName := ⟨RX3, "clearDiagnostic", "()V"⟩
abbrev cX3_momentary : ByteArray := prog_5_method_7_code
def yX3_momentary : MethodName := ⟨RX3, "momentary", "(I)I"⟩
abbrev cX3_crashesInTick : ByteArray := prog_5_method_8_code
def yX3_crashesInTick : MethodName := ⟨RX3, "crashesInTick", "(II)Z"⟩
abbrev cX3_crashesAtBegin : ByteArray := prog_5_method_9_code
def yX3_crashesAtBegin : MethodName := ⟨RX3, "crashesAtBegin", "(II)Z"⟩
abbrev cX3_endCycle : ByteArray := prog_5_method_10_code
def yX3_endCycle : MethodName := ⟨RX3, "endCycle", "(I)V"⟩
def RX4 : String := "WatchdogBoard"
def TX4 : u_T := fun k => match k with
  | 0 => ("WatchdogBoard", "board", "LWatchdogBoard$Board;", true)
  | 1 => ("WatchdogBoard", "trial", "LWatchdogBoard$Board;", true)
  | 2 => ("WatchdogBoard", "slots", "[LWatchdogBoard$Board;", true)
  | 3 => ("WatchdogBoard", "isSaved", "[Z", true)
  | _ => ("WatchdogBoard", "pad", "LWatchdogBoard$Pad;", true)
def tyX4 : Nat → FieldType := fun k => match k with
  | 0 => .object "WatchdogBoard$Board"
  | 1 => .object "WatchdogBoard$Board"
  | 2 => .array (.object "WatchdogBoard$Board")
  | 3 => .array .boolean
  | _ => .object "WatchdogBoard$Pad"
abbrev wsX40 : List Cond := u_ws RX4 TX4 5
theorem nmX4 : ∀ a, a < 5 → ∀ b, b < 5 → a ≠ b → (TX4 a).2.1 ≠ (TX4 b).2.1 := by decide +kernel
theorem tyX4_ok : ∀ k, k < 5 → parseFieldDescriptor (TX4 k).2.2.1 = some (tyX4 k) := by decide +kernel
abbrev cX4_init : ByteArray := prog_1_method_1_code
def yX4_init : MethodName := ⟨RX4, "<init>", "()V"⟩
abbrev cX4_rule : ByteArray := prog_1_method_2_code
def yX4_rule : MethodName := ⟨RX4, "rule", "(II)I"⟩
abbrev cX4_addTask : ByteArray := prog_1_method_3_code
def yX4_addTask : MethodName := ⟨RX4, "addTask", "(II)I"⟩
abbrev cX4_set : ByteArray := prog_1_method_4_code
def yX4_set : MethodName := ⟨RX4, "set", "(III)I"⟩
abbrev cX4_putFault : ByteArray := prog_1_method_5_code
def yX4_putFault : MethodName := ⟨RX4, "putFault", "(IIIII)I"⟩
abbrev cX4_run : ByteArray := prog_1_method_10_code
def yX4_run : MethodName := ⟨RX4, "run", "(I)I"⟩
abbrev cX4_powerCycle : ByteArray := prog_1_method_14_code
def yX4_powerCycle : MethodName := ⟨RX4, "powerCycle", "()I"⟩
abbrev cX4_state : ByteArray := prog_1_method_15_code
def yX4_state : MethodName := ⟨RX4, "state", "(I)I"⟩
abbrev cX4_task : ByteArray := prog_1_method_16_code
def yX4_task : MethodName := ⟨RX4, "task", "(II)I"⟩
abbrev cX4_record : ByteArray := prog_1_method_17_code
def yX4_record : MethodName := ⟨RX4, "record", "(II)I"⟩
abbrev cX4_forecast : ByteArray := prog_1_method_19_code
def yX4_forecast : MethodName := ⟨RX4, "forecast", "(I)I"⟩
abbrev cX4_hasTask : ByteArray := prog_1_method_24_code
def yX4_hasTask : MethodName := ⟨RX4, "hasTask", "(I)Z"⟩
abbrev cX4_isWithin : ByteArray := prog_1_method_27_code
def yX4_isWithin : MethodName := ⟨RX4, "isWithin", "(III)Z"⟩
abbrev cX4_isAllowed : ByteArray := prog_1_method_28_code
def yX4_isAllowed : MethodName := ⟨RX4, "isAllowed", "(II[I[I)Z"⟩
abbrev cX4_divides : ByteArray := prog_1_method_29_code
def yX4_divides : MethodName := ⟨RX4, "divides", "(II)Z"⟩
def RX5 : String := "WatchdogBoardModel"
def TX5 : u_T := fun k => match k with
  | _ => ("", "", "", false)
def tyX5 : Nat → FieldType := fun k => match k with
  | _ => .int
abbrev wsX50 : List Cond := u_ws RX5 TX5 0
theorem nmX5 : ∀ a, a < 0 → ∀ b, b < 0 → a ≠ b → (TX5 a).2.1 ≠ (TX5 b).2.1 := by decide +kernel
theorem tyX5_ok : ∀ k, k < 0 → parseFieldDescriptor (TX5 k).2.2.1 = some (tyX5 k) := by decide +kernel
def RJx8e188 : String := "java/lang/Cloneable"
def TJx8e188 : u_T := fun k => match k with
  | _ => ("", "", "", false)
def tyJx8e188 : Nat → FieldType := fun k => match k with
  | _ => .int
abbrev wsJx8e1880 : List Cond := u_ws RJx8e188 TJx8e188 0
theorem nmJx8e188 : ∀ a, a < 0 → ∀ b, b < 0 → a ≠ b → (TJx8e188 a).2.1 ≠ (TJx8e188 b).2.1 := by decide +kernel
theorem tyJx8e188_ok : ∀ k, k < 0 → parseFieldDescriptor (TJx8e188 k).2.2.1 = some (tyJx8e188 k) := by decide +kernel
def RJ9 : String := "java/lang/Math"
def TJ9 : u_T := fun k => match k with
  | _ => ("", "", "", false)
def tyJ9 : Nat → FieldType := fun k => match k with
  | _ => .int
abbrev wsJ90 : List Cond := u_ws RJ9 TJ9 0
theorem nmJ9 : ∀ a, a < 0 → ∀ b, b < 0 → a ≠ b → (TJ9 a).2.1 ≠ (TJ9 b).2.1 := by decide +kernel
theorem tyJ9_ok : ∀ k, k < 0 → parseFieldDescriptor (TJ9 k).2.2.1 = some (tyJ9 k) := by decide +kernel
abbrev cJ9_max_7cf53 : ByteArray := prog_9_method_65_code
def yJ9_max_7cf53 : MethodName := ⟨RJ9, "max", "(II)I"⟩
def RJ10 : String := "java/lang/System"
def TJ10 : u_T := fun k => match k with
  | _ => ("", "", "", false)
def tyJ10 : Nat → FieldType := fun k => match k with
  | _ => .int
abbrev wsJ100 : List Cond := u_ws RJ10 TJ10 0
theorem nmJ10 : ∀ a, a < 0 → ∀ b, b < 0 → a ≠ b → (TJ10 a).2.1 ≠ (TJ10 b).2.1 := by decide +kernel
theorem tyJ10_ok : ∀ k, k < 0 → parseFieldDescriptor (TJ10 k).2.2.1 = some (tyJ10 k) := by decide +kernel
def RL : String := "WatchdogBoardLaw"
abbrev cL_cell : ByteArray := method_2_code
def yL_cell : MethodName := ⟨RL, "cell", "([III)I"⟩
abbrev cL_anew : ByteArray := method_3_code
def yL_anew : MethodName := ⟨RL, "anew", "([I[I)V"⟩
abbrev cL_reset : ByteArray := method_4_code
def yL_reset : MethodName := ⟨RL, "reset", "(LWatchdogBoard;[I[IIII)V"⟩
abbrev cL_crashes : ByteArray := method_5_code
def yL_crashes : MethodName := ⟨RL, "crashes", "(LWatchdogBoard;[I[I[II)Z"⟩
abbrev cL_kicks : ByteArray := method_6_code
def yL_kicks : MethodName := ⟨RL, "kicks", "(LWatchdogBoard;[I[II)Z"⟩
abbrev cL_tick : ByteArray := method_7_code
def yL_tick : MethodName := ⟨RL, "tick", "(LWatchdogBoard;[I[I[III)V"⟩
abbrev cL_isTold : ByteArray := method_8_code
def yL_isTold : MethodName := ⟨RL, "isTold", "(LWatchdogBoard;[I[II)Z"⟩
abbrev cL_law : ByteArray := code
def yL_law : MethodName := ⟨RL, "law", "([I)Z"⟩
end
section
theorem dX0_init_0 : decode cX0_init 0 = .ok (.aload_n 0, 1) := by decide +kernel
theorem dX0_init_1 : decode cX0_init 1 = .ok (.invokespecial 3, 3) := by decide +kernel
theorem dX0_init_4 : decode cX0_init 4 = .ok (.aload_n 0, 1) := by decide +kernel
theorem dX0_init_5 : decode cX0_init 5 = .ok (.getstatic 9, 3) := by decide +kernel
theorem dX0_init_8 : decode cX0_init 8 = .ok (.invokevirtual 13, 3) := by decide +kernel
theorem dX0_init_11 : decode cX0_init 11 = .ok (.checkcast 14, 3) := by decide +kernel
theorem dX0_init_14 : decode cX0_init 14 = .ok (.putfield 18, 3) := by decide +kernel
theorem dX0_init_17 : decode cX0_init 17 = .ok (.aload_n 0, 1) := by decide +kernel
theorem dX0_init_18 : decode cX0_init 18 = .ok (.bipush 6, 2) := by decide +kernel
theorem dX0_init_20 : decode cX0_init 20 = .ok (.anewarray 23, 3) := by decide +kernel
theorem dX0_init_23 : decode cX0_init 23 = .ok (.putfield 25, 3) := by decide +kernel
theorem dX0_init_26 : decode cX0_init 26 = .ok (.aload_n 0, 1) := by decide +kernel
theorem dX0_init_27 : decode cX0_init 27 = .ok (.new 29, 3) := by decide +kernel
theorem dX0_init_30 : decode cX0_init 30 = .ok (.dup, 1) := by decide +kernel
theorem dX0_init_31 : decode cX0_init 31 = .ok (.invokespecial 31, 3) := by decide +kernel
theorem dX0_init_34 : decode cX0_init 34 = .ok (.putfield 32, 3) := by decide +kernel
theorem dX0_init_37 : decode cX0_init 37 = .ok (.aload_n 0, 1) := by decide +kernel
theorem dX0_init_38 : decode cX0_init 38 = .ok (.iconst 0, 1) := by decide +kernel
theorem dX0_init_39 : decode cX0_init 39 = .ok (.putfield 36, 3) := by decide +kernel
theorem dX0_init_42 : decode cX0_init 42 = .ok (.aload_n 0, 1) := by decide +kernel
theorem dX0_init_43 : decode cX0_init 43 = .ok (.iconst 0, 1) := by decide +kernel
theorem dX0_init_44 : decode cX0_init 44 = .ok (.putfield 40, 3) := by decide +kernel
theorem dX0_init_47 : decode cX0_init 47 = .ok (.aload_n 0, 1) := by decide +kernel
theorem dX0_init_48 : decode cX0_init 48 = .ok (.iconst 0, 1) := by decide +kernel
theorem dX0_init_49 : decode cX0_init 49 = .ok (.putfield 43, 3) := by decide +kernel
theorem dX0_init_52 : decode cX0_init 52 = .ok (.aload_n 0, 1) := by decide +kernel
theorem dX0_init_53 : decode cX0_init 53 = .ok (.iconst 0, 1) := by decide +kernel
theorem dX0_init_54 : decode cX0_init 54 = .ok (.putfield 46, 3) := by decide +kernel
theorem dX0_init_57 : decode cX0_init 57 = .ok (.aload_n 0, 1) := by decide +kernel
theorem dX0_init_58 : decode cX0_init 58 = .ok (.iconst 0, 1) := by decide +kernel
theorem dX0_init_59 : decode cX0_init 59 = .ok (.putfield 49, 3) := by decide +kernel
theorem dX0_init_62 : decode cX0_init 62 = .ok (.aload_n 0, 1) := by decide +kernel
theorem dX0_init_63 : decode cX0_init 63 = .ok (.getstatic 9, 3) := by decide +kernel
theorem dX0_init_66 : decode cX0_init 66 = .ok (.iconst 5, 1) := by decide +kernel
theorem dX0_init_67 : decode cX0_init 67 = .ok (.iaload, 1) := by decide +kernel
theorem dX0_init_68 : decode cX0_init 68 = .ok (.putfield 52, 3) := by decide +kernel
theorem dX0_init_71 : decode cX0_init 71 = .ok (.aload_n 0, 1) := by decide +kernel
theorem dX0_init_72 : decode cX0_init 72 = .ok (.iconst 0, 1) := by decide +kernel
theorem dX0_init_73 : decode cX0_init 73 = .ok (.putfield 55, 3) := by decide +kernel
theorem dX0_init_76 : decode cX0_init 76 = .ok (.aload_n 0, 1) := by decide +kernel
theorem dX0_init_77 : decode cX0_init 77 = .ok (.iconst 0, 1) := by decide +kernel
theorem dX0_init_78 : decode cX0_init 78 = .ok (.putfield 58, 3) := by decide +kernel
theorem dX0_init_81 : decode cX0_init 81 = .ok (.aload_n 0, 1) := by decide +kernel
theorem dX0_init_82 : decode cX0_init 82 = .ok (.iconst 0, 1) := by decide +kernel
theorem dX0_init_83 : decode cX0_init 83 = .ok (.putfield 61, 3) := by decide +kernel
theorem dX0_init_86 : decode cX0_init 86 = .ok (.aload_n 0, 1) := by decide +kernel
theorem dX0_init_87 : decode cX0_init 87 = .ok (.iconst 0, 1) := by decide +kernel
theorem dX0_init_88 : decode cX0_init 88 = .ok (.putfield 64, 3) := by decide +kernel
theorem dX0_init_91 : decode cX0_init 91 = .ok (.iconst 0, 1) := by decide +kernel
theorem dX0_init_92 : decode cX0_init 92 = .ok (.istore_n 1, 1) := by decide +kernel
theorem dX0_init_93 : decode cX0_init 93 = .ok (.iload_n 1, 1) := by decide +kernel
theorem dX0_init_94 : decode cX0_init 94 = .ok (.bipush 6, 2) := by decide +kernel
theorem dX0_init_96 : decode cX0_init 96 = .ok (.if_icmp .ge 22, 3) := by decide +kernel
theorem dX0_init_99 : decode cX0_init 99 = .ok (.aload_n 0, 1) := by decide +kernel
theorem dX0_init_100 : decode cX0_init 100 = .ok (.getfield 25, 3) := by decide +kernel
theorem dX0_init_103 : decode cX0_init 103 = .ok (.iload_n 1, 1) := by decide +kernel
theorem dX0_init_104 : decode cX0_init 104 = .ok (.new 23, 3) := by decide +kernel
theorem dX0_init_107 : decode cX0_init 107 = .ok (.dup, 1) := by decide +kernel
theorem dX0_init_108 : decode cX0_init 108 = .ok (.invokespecial 67, 3) := by decide +kernel
theorem dX0_init_111 : decode cX0_init 111 = .ok (.aastore, 1) := by decide +kernel
theorem dX0_init_112 : decode cX0_init 112 = .ok (.iinc 1 1, 3) := by decide +kernel
theorem dX0_init_115 : decode cX0_init 115 = .ok (.goto (-22), 3) := by decide +kernel
theorem dX0_init_118 : decode cX0_init 118 = .ok (.return_, 1) := by decide +kernel
theorem dX0_become_0 : decode cX0_become 0 = .ok (.aload_n 1, 1) := by decide +kernel
theorem dX0_become_1 : decode cX0_become 1 = .ok (.getfield 18, 3) := by decide +kernel
theorem dX0_become_4 : decode cX0_become 4 = .ok (.iconst 0, 1) := by decide +kernel
theorem dX0_become_5 : decode cX0_become 5 = .ok (.aload_n 0, 1) := by decide +kernel
theorem dX0_become_6 : decode cX0_become 6 = .ok (.getfield 18, 3) := by decide +kernel
theorem dX0_become_9 : decode cX0_become 9 = .ok (.iconst 0, 1) := by decide +kernel
theorem dX0_become_10 : decode cX0_become 10 = .ok (.bipush 8, 2) := by decide +kernel
theorem dX0_become_12 : decode cX0_become 12 = .ok (.invokestatic 68, 3) := by decide +kernel
theorem dX0_become_15 : decode cX0_become 15 = .ok (.iconst 0, 1) := by decide +kernel
theorem dX0_become_16 : decode cX0_become 16 = .ok (.istore_n 2, 1) := by decide +kernel
theorem dX0_become_17 : decode cX0_become 17 = .ok (.iload_n 2, 1) := by decide +kernel
theorem dX0_become_18 : decode cX0_become 18 = .ok (.aload_n 1, 1) := by decide +kernel
theorem dX0_become_19 : decode cX0_become 19 = .ok (.getfield 36, 3) := by decide +kernel
theorem dX0_become_22 : decode cX0_become 22 = .ok (.if_icmp .ge 24, 3) := by decide +kernel
theorem dX0_become_25 : decode cX0_become 25 = .ok (.aload_n 0, 1) := by decide +kernel
theorem dX0_become_26 : decode cX0_become 26 = .ok (.getfield 25, 3) := by decide +kernel
theorem dX0_become_29 : decode cX0_become 29 = .ok (.iload_n 2, 1) := by decide +kernel
theorem dX0_become_30 : decode cX0_become 30 = .ok (.aaload, 1) := by decide +kernel
theorem dX0_become_31 : decode cX0_become 31 = .ok (.aload_n 1, 1) := by decide +kernel
theorem dX0_become_32 : decode cX0_become 32 = .ok (.getfield 25, 3) := by decide +kernel
theorem dX0_become_35 : decode cX0_become 35 = .ok (.iload_n 2, 1) := by decide +kernel
theorem dX0_become_36 : decode cX0_become 36 = .ok (.aaload, 1) := by decide +kernel
theorem dX0_become_37 : decode cX0_become 37 = .ok (.invokevirtual 74, 3) := by decide +kernel
theorem dX0_become_40 : decode cX0_become 40 = .ok (.iinc 2 1, 3) := by decide +kernel
theorem dX0_become_43 : decode cX0_become 43 = .ok (.goto (-26), 3) := by decide +kernel
theorem dX0_become_46 : decode cX0_become 46 = .ok (.aload_n 0, 1) := by decide +kernel
theorem dX0_become_47 : decode cX0_become 47 = .ok (.getfield 32, 3) := by decide +kernel
theorem dX0_become_50 : decode cX0_become 50 = .ok (.aload_n 1, 1) := by decide +kernel
theorem dX0_become_51 : decode cX0_become 51 = .ok (.getfield 32, 3) := by decide +kernel
theorem dX0_become_54 : decode cX0_become 54 = .ok (.invokevirtual 78, 3) := by decide +kernel
theorem dX0_become_57 : decode cX0_become 57 = .ok (.aload_n 0, 1) := by decide +kernel
theorem dX0_become_58 : decode cX0_become 58 = .ok (.aload_n 1, 1) := by decide +kernel
theorem dX0_become_59 : decode cX0_become 59 = .ok (.getfield 36, 3) := by decide +kernel
theorem dX0_become_62 : decode cX0_become 62 = .ok (.putfield 36, 3) := by decide +kernel
theorem dX0_become_65 : decode cX0_become 65 = .ok (.aload_n 0, 1) := by decide +kernel
theorem dX0_become_66 : decode cX0_become 66 = .ok (.aload_n 1, 1) := by decide +kernel
theorem dX0_become_67 : decode cX0_become 67 = .ok (.getfield 40, 3) := by decide +kernel
theorem dX0_become_70 : decode cX0_become 70 = .ok (.putfield 40, 3) := by decide +kernel
theorem dX0_become_73 : decode cX0_become 73 = .ok (.aload_n 0, 1) := by decide +kernel
theorem dX0_become_74 : decode cX0_become 74 = .ok (.aload_n 1, 1) := by decide +kernel
theorem dX0_become_75 : decode cX0_become 75 = .ok (.getfield 43, 3) := by decide +kernel
theorem dX0_become_78 : decode cX0_become 78 = .ok (.putfield 43, 3) := by decide +kernel
theorem dX0_become_81 : decode cX0_become 81 = .ok (.aload_n 0, 1) := by decide +kernel
theorem dX0_become_82 : decode cX0_become 82 = .ok (.aload_n 1, 1) := by decide +kernel
theorem dX0_become_83 : decode cX0_become 83 = .ok (.getfield 46, 3) := by decide +kernel
theorem dX0_become_86 : decode cX0_become 86 = .ok (.putfield 46, 3) := by decide +kernel
theorem dX0_become_89 : decode cX0_become 89 = .ok (.aload_n 0, 1) := by decide +kernel
theorem dX0_become_90 : decode cX0_become 90 = .ok (.aload_n 1, 1) := by decide +kernel
theorem dX0_become_91 : decode cX0_become 91 = .ok (.getfield 49, 3) := by decide +kernel
theorem dX0_become_94 : decode cX0_become 94 = .ok (.putfield 49, 3) := by decide +kernel
theorem dX0_become_97 : decode cX0_become 97 = .ok (.aload_n 0, 1) := by decide +kernel
theorem dX0_become_98 : decode cX0_become 98 = .ok (.aload_n 1, 1) := by decide +kernel
theorem dX0_become_99 : decode cX0_become 99 = .ok (.getfield 52, 3) := by decide +kernel
theorem dX0_become_102 : decode cX0_become 102 = .ok (.putfield 52, 3) := by decide +kernel
theorem dX0_become_105 : decode cX0_become 105 = .ok (.aload_n 0, 1) := by decide +kernel
theorem dX0_become_106 : decode cX0_become 106 = .ok (.aload_n 1, 1) := by decide +kernel
theorem dX0_become_107 : decode cX0_become 107 = .ok (.getfield 55, 3) := by decide +kernel
theorem dX0_become_110 : decode cX0_become 110 = .ok (.putfield 55, 3) := by decide +kernel
theorem dX0_become_113 : decode cX0_become 113 = .ok (.aload_n 0, 1) := by decide +kernel
theorem dX0_become_114 : decode cX0_become 114 = .ok (.aload_n 1, 1) := by decide +kernel
theorem dX0_become_115 : decode cX0_become 115 = .ok (.getfield 58, 3) := by decide +kernel
theorem dX0_become_118 : decode cX0_become 118 = .ok (.putfield 58, 3) := by decide +kernel
theorem dX0_become_121 : decode cX0_become 121 = .ok (.aload_n 0, 1) := by decide +kernel
theorem dX0_become_122 : decode cX0_become 122 = .ok (.aload_n 1, 1) := by decide +kernel
theorem dX0_become_123 : decode cX0_become 123 = .ok (.getfield 61, 3) := by decide +kernel
theorem dX0_become_126 : decode cX0_become 126 = .ok (.putfield 61, 3) := by decide +kernel
theorem dX0_become_129 : decode cX0_become 129 = .ok (.aload_n 0, 1) := by decide +kernel
theorem dX0_become_130 : decode cX0_become 130 = .ok (.aload_n 1, 1) := by decide +kernel
theorem dX0_become_131 : decode cX0_become 131 = .ok (.getfield 64, 3) := by decide +kernel
theorem dX0_become_134 : decode cX0_become 134 = .ok (.putfield 64, 3) := by decide +kernel
theorem dX0_become_137 : decode cX0_become 137 = .ok (.return_, 1) := by decide +kernel
theorem dX0_switchOffAndOn_0 : decode cX0_switchOffAndOn 0 = .ok (.aload_n 0, 1) := by decide +kernel
theorem dX0_switchOffAndOn_1 : decode cX0_switchOffAndOn 1 = .ok (.iconst 0, 1) := by decide +kernel
theorem dX0_switchOffAndOn_2 : decode cX0_switchOffAndOn 2 = .ok (.putfield 46, 3) := by decide +kernel
theorem dX0_switchOffAndOn_5 : decode cX0_switchOffAndOn 5 = .ok (.aload_n 0, 1) := by decide +kernel
theorem dX0_switchOffAndOn_6 : decode cX0_switchOffAndOn 6 = .ok (.iconst 0, 1) := by decide +kernel
theorem dX0_switchOffAndOn_7 : decode cX0_switchOffAndOn 7 = .ok (.putfield 49, 3) := by decide +kernel
theorem dX0_switchOffAndOn_10 : decode cX0_switchOffAndOn 10 = .ok (.aload_n 0, 1) := by decide +kernel
theorem dX0_switchOffAndOn_11 : decode cX0_switchOffAndOn 11 = .ok (.invokevirtual 85, 3) := by decide +kernel
theorem dX0_switchOffAndOn_14 : decode cX0_switchOffAndOn 14 = .ok (.return_, 1) := by decide +kernel
theorem dX0_boot_0 : decode cX0_boot 0 = .ok (.aload_n 0, 1) := by decide +kernel
theorem dX0_boot_1 : decode cX0_boot 1 = .ok (.iconst 0, 1) := by decide +kernel
theorem dX0_boot_2 : decode cX0_boot 2 = .ok (.putfield 43, 3) := by decide +kernel
theorem dX0_boot_5 : decode cX0_boot 5 = .ok (.aload_n 0, 1) := by decide +kernel
theorem dX0_boot_6 : decode cX0_boot 6 = .ok (.aload_n 0, 1) := by decide +kernel
theorem dX0_boot_7 : decode cX0_boot 7 = .ok (.getfield 18, 3) := by decide +kernel
theorem dX0_boot_10 : decode cX0_boot 10 = .ok (.iconst 5, 1) := by decide +kernel
theorem dX0_boot_11 : decode cX0_boot 11 = .ok (.iaload, 1) := by decide +kernel
theorem dX0_boot_12 : decode cX0_boot 12 = .ok (.putfield 52, 3) := by decide +kernel
theorem dX0_boot_15 : decode cX0_boot 15 = .ok (.return_, 1) := by decide +kernel
theorem dX0_ifRunning_0 : decode cX0_ifRunning 0 = .ok (.aload_n 0, 1) := by decide +kernel
theorem dX0_ifRunning_1 : decode cX0_ifRunning 1 = .ok (.getfield 43, 3) := by decide +kernel
theorem dX0_ifRunning_4 : decode cX0_ifRunning 4 = .ok (.iconst 1, 1) := by decide +kernel
theorem dX0_ifRunning_5 : decode cX0_ifRunning 5 = .ok (.if_icmp .ne 7, 3) := by decide +kernel
theorem dX0_ifRunning_8 : decode cX0_ifRunning 8 = .ok (.iload_n 1, 1) := by decide +kernel
theorem dX0_ifRunning_9 : decode cX0_ifRunning 9 = .ok (.goto 4, 3) := by decide +kernel
theorem dX0_ifRunning_12 : decode cX0_ifRunning 12 = .ok (.iconst 0, 1) := by decide +kernel
theorem dX0_ifRunning_13 : decode cX0_ifRunning 13 = .ok (.ireturn, 1) := by decide +kernel
theorem dX0_expiredSet_0 : decode cX0_expiredSet 0 = .ok (.iconst 0, 1) := by decide +kernel
theorem dX0_expiredSet_1 : decode cX0_expiredSet 1 = .ok (.istore_n 1, 1) := by decide +kernel
theorem dX0_expiredSet_2 : decode cX0_expiredSet 2 = .ok (.iconst 0, 1) := by decide +kernel
theorem dX0_expiredSet_3 : decode cX0_expiredSet 3 = .ok (.istore_n 2, 1) := by decide +kernel
theorem dX0_expiredSet_4 : decode cX0_expiredSet 4 = .ok (.iload_n 2, 1) := by decide +kernel
theorem dX0_expiredSet_5 : decode cX0_expiredSet 5 = .ok (.aload_n 0, 1) := by decide +kernel
theorem dX0_expiredSet_6 : decode cX0_expiredSet 6 = .ok (.getfield 36, 3) := by decide +kernel
theorem dX0_expiredSet_9 : decode cX0_expiredSet 9 = .ok (.if_icmp .ge 27, 3) := by decide +kernel
theorem dX0_expiredSet_12 : decode cX0_expiredSet 12 = .ok (.aload_n 0, 1) := by decide +kernel
theorem dX0_expiredSet_13 : decode cX0_expiredSet 13 = .ok (.getfield 25, 3) := by decide +kernel
theorem dX0_expiredSet_16 : decode cX0_expiredSet 16 = .ok (.iload_n 2, 1) := by decide +kernel
theorem dX0_expiredSet_17 : decode cX0_expiredSet 17 = .ok (.aaload, 1) := by decide +kernel
theorem dX0_expiredSet_18 : decode cX0_expiredSet 18 = .ok (.getfield 88, 3) := by decide +kernel
theorem dX0_expiredSet_21 : decode cX0_expiredSet 21 = .ok (.ifCond .eq 9, 3) := by decide +kernel
theorem dX0_expiredSet_24 : decode cX0_expiredSet 24 = .ok (.iload_n 1, 1) := by decide +kernel
theorem dX0_expiredSet_25 : decode cX0_expiredSet 25 = .ok (.iconst 1, 1) := by decide +kernel
theorem dX0_expiredSet_26 : decode cX0_expiredSet 26 = .ok (.iload_n 2, 1) := by decide +kernel
theorem dX0_expiredSet_27 : decode cX0_expiredSet 27 = .ok (.ishl, 1) := by decide +kernel
theorem dX0_expiredSet_28 : decode cX0_expiredSet 28 = .ok (.ior, 1) := by decide +kernel
theorem dX0_expiredSet_29 : decode cX0_expiredSet 29 = .ok (.istore_n 1, 1) := by decide +kernel
theorem dX0_expiredSet_30 : decode cX0_expiredSet 30 = .ok (.iinc 2 1, 3) := by decide +kernel
theorem dX0_expiredSet_33 : decode cX0_expiredSet 33 = .ok (.goto (-29), 3) := by decide +kernel
theorem dX0_expiredSet_36 : decode cX0_expiredSet 36 = .ok (.iload_n 1, 1) := by decide +kernel
theorem dX0_expiredSet_37 : decode cX0_expiredSet 37 = .ok (.ireturn, 1) := by decide +kernel
theorem dX0_lowestExpired_0 : decode cX0_lowestExpired 0 = .ok (.iconst 0, 1) := by decide +kernel
theorem dX0_lowestExpired_1 : decode cX0_lowestExpired 1 = .ok (.istore_n 1, 1) := by decide +kernel
theorem dX0_lowestExpired_2 : decode cX0_lowestExpired 2 = .ok (.iload_n 1, 1) := by decide +kernel
theorem dX0_lowestExpired_3 : decode cX0_lowestExpired 3 = .ok (.aload_n 0, 1) := by decide +kernel
theorem dX0_lowestExpired_4 : decode cX0_lowestExpired 4 = .ok (.getfield 36, 3) := by decide +kernel
theorem dX0_lowestExpired_7 : decode cX0_lowestExpired 7 = .ok (.if_icmp .ge 23, 3) := by decide +kernel
theorem dX0_lowestExpired_10 : decode cX0_lowestExpired 10 = .ok (.aload_n 0, 1) := by decide +kernel
theorem dX0_lowestExpired_11 : decode cX0_lowestExpired 11 = .ok (.getfield 25, 3) := by decide +kernel
theorem dX0_lowestExpired_14 : decode cX0_lowestExpired 14 = .ok (.iload_n 1, 1) := by decide +kernel
theorem dX0_lowestExpired_15 : decode cX0_lowestExpired 15 = .ok (.aaload, 1) := by decide +kernel
theorem dX0_lowestExpired_16 : decode cX0_lowestExpired 16 = .ok (.getfield 88, 3) := by decide +kernel
theorem dX0_lowestExpired_19 : decode cX0_lowestExpired 19 = .ok (.ifCond .eq 5, 3) := by decide +kernel
theorem dX0_lowestExpired_22 : decode cX0_lowestExpired 22 = .ok (.iload_n 1, 1) := by decide +kernel
theorem dX0_lowestExpired_23 : decode cX0_lowestExpired 23 = .ok (.ireturn, 1) := by decide +kernel
theorem dX0_lowestExpired_24 : decode cX0_lowestExpired 24 = .ok (.iinc 1 1, 3) := by decide +kernel
theorem dX0_lowestExpired_27 : decode cX0_lowestExpired 27 = .ok (.goto (-25), 3) := by decide +kernel
theorem dX0_lowestExpired_30 : decode cX0_lowestExpired 30 = .ok (.bipush (-6), 2) := by decide +kernel
theorem dX0_lowestExpired_32 : decode cX0_lowestExpired 32 = .ok (.ireturn, 1) := by decide +kernel
theorem dX0_ticksToReset_0 : decode cX0_ticksToReset 0 = .ok (.iconst 1, 1) := by decide +kernel
theorem dX0_ticksToReset_1 : decode cX0_ticksToReset 1 = .ok (.istore_n 2, 1) := by decide +kernel
theorem dX0_ticksToReset_2 : decode cX0_ticksToReset 2 = .ok (.iload_n 2, 1) := by decide +kernel
theorem dX0_ticksToReset_3 : decode cX0_ticksToReset 3 = .ok (.iload_n 1, 1) := by decide +kernel
theorem dX0_ticksToReset_4 : decode cX0_ticksToReset 4 = .ok (.if_icmp .gt 18, 3) := by decide +kernel
theorem dX0_ticksToReset_7 : decode cX0_ticksToReset 7 = .ok (.aload_n 0, 1) := by decide +kernel
theorem dX0_ticksToReset_8 : decode cX0_ticksToReset 8 = .ok (.invokevirtual 92, 3) := by decide +kernel
theorem dX0_ticksToReset_11 : decode cX0_ticksToReset 11 = .ok (.ifCond .eq 5, 3) := by decide +kernel
theorem dX0_ticksToReset_14 : decode cX0_ticksToReset 14 = .ok (.iload_n 2, 1) := by decide +kernel
theorem dX0_ticksToReset_15 : decode cX0_ticksToReset 15 = .ok (.ireturn, 1) := by decide +kernel
theorem dX0_ticksToReset_16 : decode cX0_ticksToReset 16 = .ok (.iinc 2 1, 3) := by decide +kernel
theorem dX0_ticksToReset_19 : decode cX0_ticksToReset 19 = .ok (.goto (-17), 3) := by decide +kernel
theorem dX0_ticksToReset_22 : decode cX0_ticksToReset 22 = .ok (.bipush (-6), 2) := by decide +kernel
theorem dX0_ticksToReset_24 : decode cX0_ticksToReset 24 = .ok (.ireturn, 1) := by decide +kernel
theorem dX0_tick_0 : decode cX0_tick 0 = .ok (.iconst 0, 1) := by decide +kernel
theorem dX0_tick_1 : decode cX0_tick 1 = .ok (.istore_n 1, 1) := by decide +kernel
theorem dX0_tick_2 : decode cX0_tick 2 = .ok (.aload_n 0, 1) := by decide +kernel
theorem dX0_tick_3 : decode cX0_tick 3 = .ok (.getfield 43, 3) := by decide +kernel
theorem dX0_tick_6 : decode cX0_tick 6 = .ok (.ifCond .ne 10, 3) := by decide +kernel
theorem dX0_tick_9 : decode cX0_tick 9 = .ok (.aload_n 0, 1) := by decide +kernel
theorem dX0_tick_10 : decode cX0_tick 10 = .ok (.invokevirtual 96, 3) := by decide +kernel
theorem dX0_tick_13 : decode cX0_tick 13 = .ok (.goto 16, 3) := by decide +kernel
theorem dX0_tick_16 : decode cX0_tick 16 = .ok (.aload_n 0, 1) := by decide +kernel
theorem dX0_tick_17 : decode cX0_tick 17 = .ok (.getfield 43, 3) := by decide +kernel
theorem dX0_tick_20 : decode cX0_tick 20 = .ok (.iconst 1, 1) := by decide +kernel
theorem dX0_tick_21 : decode cX0_tick 21 = .ok (.if_icmp .ne 8, 3) := by decide +kernel
theorem dX0_tick_24 : decode cX0_tick 24 = .ok (.aload_n 0, 1) := by decide +kernel
theorem dX0_tick_25 : decode cX0_tick 25 = .ok (.invokevirtual 99, 3) := by decide +kernel
theorem dX0_tick_28 : decode cX0_tick 28 = .ok (.istore_n 1, 1) := by decide +kernel
theorem dX0_tick_29 : decode cX0_tick 29 = .ok (.aload_n 0, 1) := by decide +kernel
theorem dX0_tick_30 : decode cX0_tick 30 = .ok (.dup, 1) := by decide +kernel
theorem dX0_tick_31 : decode cX0_tick 31 = .ok (.getfield 40, 3) := by decide +kernel
theorem dX0_tick_34 : decode cX0_tick 34 = .ok (.iconst 1, 1) := by decide +kernel
theorem dX0_tick_35 : decode cX0_tick 35 = .ok (.iadd, 1) := by decide +kernel
theorem dX0_tick_36 : decode cX0_tick 36 = .ok (.putfield 40, 3) := by decide +kernel
theorem dX0_tick_39 : decode cX0_tick 39 = .ok (.iload_n 1, 1) := by decide +kernel
theorem dX0_tick_40 : decode cX0_tick 40 = .ok (.ireturn, 1) := by decide +kernel
theorem dX0_tickBooting_0 : decode cX0_tickBooting 0 = .ok (.aload_n 0, 1) := by decide +kernel
theorem dX0_tickBooting_1 : decode cX0_tickBooting 1 = .ok (.dup, 1) := by decide +kernel
theorem dX0_tickBooting_2 : decode cX0_tickBooting 2 = .ok (.getfield 52, 3) := by decide +kernel
theorem dX0_tickBooting_5 : decode cX0_tickBooting 5 = .ok (.iconst 1, 1) := by decide +kernel
theorem dX0_tickBooting_6 : decode cX0_tickBooting 6 = .ok (.isub, 1) := by decide +kernel
theorem dX0_tickBooting_7 : decode cX0_tickBooting 7 = .ok (.putfield 52, 3) := by decide +kernel
theorem dX0_tickBooting_10 : decode cX0_tickBooting 10 = .ok (.aload_n 0, 1) := by decide +kernel
theorem dX0_tickBooting_11 : decode cX0_tickBooting 11 = .ok (.getfield 52, 3) := by decide +kernel
theorem dX0_tickBooting_14 : decode cX0_tickBooting 14 = .ok (.ifCond .le 4, 3) := by decide +kernel
theorem dX0_tickBooting_17 : decode cX0_tickBooting 17 = .ok (.return_, 1) := by decide +kernel
theorem dX0_tickBooting_18 : decode cX0_tickBooting 18 = .ok (.aload_n 0, 1) := by decide +kernel
theorem dX0_tickBooting_19 : decode cX0_tickBooting 19 = .ok (.iconst 1, 1) := by decide +kernel
theorem dX0_tickBooting_20 : decode cX0_tickBooting 20 = .ok (.putfield 43, 3) := by decide +kernel
theorem dX0_tickBooting_23 : decode cX0_tickBooting 23 = .ok (.aload_n 0, 1) := by decide +kernel
theorem dX0_tickBooting_24 : decode cX0_tickBooting 24 = .ok (.iconst 0, 1) := by decide +kernel
theorem dX0_tickBooting_25 : decode cX0_tickBooting 25 = .ok (.putfield 55, 3) := by decide +kernel
theorem dX0_tickBooting_28 : decode cX0_tickBooting 28 = .ok (.aload_n 0, 1) := by decide +kernel
theorem dX0_tickBooting_29 : decode cX0_tickBooting 29 = .ok (.iconst 0, 1) := by decide +kernel
theorem dX0_tickBooting_30 : decode cX0_tickBooting 30 = .ok (.putfield 58, 3) := by decide +kernel
theorem dX0_tickBooting_33 : decode cX0_tickBooting 33 = .ok (.aload_n 0, 1) := by decide +kernel
theorem dX0_tickBooting_34 : decode cX0_tickBooting 34 = .ok (.iconst 0, 1) := by decide +kernel
theorem dX0_tickBooting_35 : decode cX0_tickBooting 35 = .ok (.putfield 61, 3) := by decide +kernel
theorem dX0_tickBooting_38 : decode cX0_tickBooting 38 = .ok (.aload_n 0, 1) := by decide +kernel
theorem dX0_tickBooting_39 : decode cX0_tickBooting 39 = .ok (.iconst 0, 1) := by decide +kernel
theorem dX0_tickBooting_40 : decode cX0_tickBooting 40 = .ok (.putfield 64, 3) := by decide +kernel
theorem dX0_tickBooting_43 : decode cX0_tickBooting 43 = .ok (.iconst 0, 1) := by decide +kernel
theorem dX0_tickBooting_44 : decode cX0_tickBooting 44 = .ok (.istore_n 1, 1) := by decide +kernel
theorem dX0_tickBooting_45 : decode cX0_tickBooting 45 = .ok (.iload_n 1, 1) := by decide +kernel
theorem dX0_tickBooting_46 : decode cX0_tickBooting 46 = .ok (.aload_n 0, 1) := by decide +kernel
theorem dX0_tickBooting_47 : decode cX0_tickBooting 47 = .ok (.getfield 36, 3) := by decide +kernel
theorem dX0_tickBooting_50 : decode cX0_tickBooting 50 = .ok (.if_icmp .ge 18, 3) := by decide +kernel
theorem dX0_tickBooting_53 : decode cX0_tickBooting 53 = .ok (.aload_n 0, 1) := by decide +kernel
theorem dX0_tickBooting_54 : decode cX0_tickBooting 54 = .ok (.getfield 25, 3) := by decide +kernel
theorem dX0_tickBooting_57 : decode cX0_tickBooting 57 = .ok (.iload_n 1, 1) := by decide +kernel
theorem dX0_tickBooting_58 : decode cX0_tickBooting 58 = .ok (.aaload, 1) := by decide +kernel
theorem dX0_tickBooting_59 : decode cX0_tickBooting 59 = .ok (.invokevirtual 102, 3) := by decide +kernel
theorem dX0_tickBooting_62 : decode cX0_tickBooting 62 = .ok (.iinc 1 1, 3) := by decide +kernel
theorem dX0_tickBooting_65 : decode cX0_tickBooting 65 = .ok (.goto (-20), 3) := by decide +kernel
theorem dX0_tickBooting_68 : decode cX0_tickBooting 68 = .ok (.return_, 1) := by decide +kernel
theorem dX0_tickRunning_0 : decode cX0_tickRunning 0 = .ok (.aload_n 0, 1) := by decide +kernel
theorem dX0_tickRunning_1 : decode cX0_tickRunning 1 = .ok (.dup, 1) := by decide +kernel
theorem dX0_tickRunning_2 : decode cX0_tickRunning 2 = .ok (.getfield 55, 3) := by decide +kernel
theorem dX0_tickRunning_5 : decode cX0_tickRunning 5 = .ok (.iconst 1, 1) := by decide +kernel
theorem dX0_tickRunning_6 : decode cX0_tickRunning 6 = .ok (.iadd, 1) := by decide +kernel
theorem dX0_tickRunning_7 : decode cX0_tickRunning 7 = .ok (.putfield 55, 3) := by decide +kernel
theorem dX0_tickRunning_10 : decode cX0_tickRunning 10 = .ok (.aload_n 0, 1) := by decide +kernel
theorem dX0_tickRunning_11 : decode cX0_tickRunning 11 = .ok (.dup, 1) := by decide +kernel
theorem dX0_tickRunning_12 : decode cX0_tickRunning 12 = .ok (.getfield 58, 3) := by decide +kernel
theorem dX0_tickRunning_15 : decode cX0_tickRunning 15 = .ok (.iconst 1, 1) := by decide +kernel
theorem dX0_tickRunning_16 : decode cX0_tickRunning 16 = .ok (.iadd, 1) := by decide +kernel
theorem dX0_tickRunning_17 : decode cX0_tickRunning 17 = .ok (.putfield 58, 3) := by decide +kernel
theorem dX0_tickRunning_20 : decode cX0_tickRunning 20 = .ok (.iconst 0, 1) := by decide +kernel
theorem dX0_tickRunning_21 : decode cX0_tickRunning 21 = .ok (.istore_n 1, 1) := by decide +kernel
theorem dX0_tickRunning_22 : decode cX0_tickRunning 22 = .ok (.iload_n 1, 1) := by decide +kernel
theorem dX0_tickRunning_23 : decode cX0_tickRunning 23 = .ok (.aload_n 0, 1) := by decide +kernel
theorem dX0_tickRunning_24 : decode cX0_tickRunning 24 = .ok (.getfield 36, 3) := by decide +kernel
theorem dX0_tickRunning_27 : decode cX0_tickRunning 27 = .ok (.if_icmp .ge 37, 3) := by decide +kernel
theorem dX0_tickRunning_30 : decode cX0_tickRunning 30 = .ok (.aload_n 0, 1) := by decide +kernel
theorem dX0_tickRunning_31 : decode cX0_tickRunning 31 = .ok (.getfield 25, 3) := by decide +kernel
theorem dX0_tickRunning_34 : decode cX0_tickRunning 34 = .ok (.iload_n 1, 1) := by decide +kernel
theorem dX0_tickRunning_35 : decode cX0_tickRunning 35 = .ok (.aaload, 1) := by decide +kernel
theorem dX0_tickRunning_36 : decode cX0_tickRunning 36 = .ok (.aload_n 0, 1) := by decide +kernel
theorem dX0_tickRunning_37 : decode cX0_tickRunning 37 = .ok (.getfield 55, 3) := by decide +kernel
theorem dX0_tickRunning_40 : decode cX0_tickRunning 40 = .ok (.aload_n 0, 1) := by decide +kernel
theorem dX0_tickRunning_41 : decode cX0_tickRunning 41 = .ok (.getfield 46, 3) := by decide +kernel
theorem dX0_tickRunning_44 : decode cX0_tickRunning 44 = .ok (.invokevirtual 105, 3) := by decide +kernel
theorem dX0_tickRunning_47 : decode cX0_tickRunning 47 = .ok (.ifCond .eq 11, 3) := by decide +kernel
theorem dX0_tickRunning_50 : decode cX0_tickRunning 50 = .ok (.aload_n 0, 1) := by decide +kernel
theorem dX0_tickRunning_51 : decode cX0_tickRunning 51 = .ok (.iconst 3, 1) := by decide +kernel
theorem dX0_tickRunning_52 : decode cX0_tickRunning 52 = .ok (.iload_n 1, 1) := by decide +kernel
theorem dX0_tickRunning_53 : decode cX0_tickRunning 53 = .ok (.invokevirtual 109, 3) := by decide +kernel
theorem dX0_tickRunning_56 : decode cX0_tickRunning 56 = .ok (.iconst 1, 1) := by decide +kernel
theorem dX0_tickRunning_57 : decode cX0_tickRunning 57 = .ok (.ireturn, 1) := by decide +kernel
theorem dX0_tickRunning_58 : decode cX0_tickRunning 58 = .ok (.iinc 1 1, 3) := by decide +kernel
theorem dX0_tickRunning_61 : decode cX0_tickRunning 61 = .ok (.goto (-39), 3) := by decide +kernel
theorem dX0_tickRunning_64 : decode cX0_tickRunning 64 = .ok (.aload_n 0, 1) := by decide +kernel
theorem dX0_tickRunning_65 : decode cX0_tickRunning 65 = .ok (.getfield 18, 3) := by decide +kernel
theorem dX0_tickRunning_68 : decode cX0_tickRunning 68 = .ok (.iconst 2, 1) := by decide +kernel
theorem dX0_tickRunning_69 : decode cX0_tickRunning 69 = .ok (.iaload, 1) := by decide +kernel
theorem dX0_tickRunning_70 : decode cX0_tickRunning 70 = .ok (.aload_n 0, 1) := by decide +kernel
theorem dX0_tickRunning_71 : decode cX0_tickRunning 71 = .ok (.getfield 55, 3) := by decide +kernel
theorem dX0_tickRunning_74 : decode cX0_tickRunning 74 = .ok (.invokestatic 113, 3) := by decide +kernel
theorem dX0_tickRunning_77 : decode cX0_tickRunning 77 = .ok (.ifCond .eq 14, 3) := by decide +kernel
theorem dX0_tickRunning_80 : decode cX0_tickRunning 80 = .ok (.aload_n 0, 1) := by decide +kernel
theorem dX0_tickRunning_81 : decode cX0_tickRunning 81 = .ok (.invokevirtual 116, 3) := by decide +kernel
theorem dX0_tickRunning_84 : decode cX0_tickRunning 84 = .ok (.ifCond .eq 7, 3) := by decide +kernel
theorem dX0_tickRunning_87 : decode cX0_tickRunning 87 = .ok (.iconst 1, 1) := by decide +kernel
theorem dX0_tickRunning_88 : decode cX0_tickRunning 88 = .ok (.goto 4, 3) := by decide +kernel
theorem dX0_tickRunning_91 : decode cX0_tickRunning 91 = .ok (.iconst 0, 1) := by decide +kernel
theorem dX0_tickRunning_92 : decode cX0_tickRunning 92 = .ok (.istore_n 1, 1) := by decide +kernel
theorem dX0_tickRunning_93 : decode cX0_tickRunning 93 = .ok (.aload_n 0, 1) := by decide +kernel
theorem dX0_tickRunning_94 : decode cX0_tickRunning 94 = .ok (.iload_n 1, 1) := by decide +kernel
theorem dX0_tickRunning_95 : decode cX0_tickRunning 95 = .ok (.invokevirtual 119, 3) := by decide +kernel
theorem dX0_tickRunning_98 : decode cX0_tickRunning 98 = .ok (.istore_n 2, 1) := by decide +kernel
theorem dX0_tickRunning_99 : decode cX0_tickRunning 99 = .ok (.iload_n 2, 1) := by decide +kernel
theorem dX0_tickRunning_100 : decode cX0_tickRunning 100 = .ok (.ifCond .eq 14, 3) := by decide +kernel
theorem dX0_tickRunning_103 : decode cX0_tickRunning 103 = .ok (.aload_n 0, 1) := by decide +kernel
theorem dX0_tickRunning_104 : decode cX0_tickRunning 104 = .ok (.iload_n 2, 1) := by decide +kernel
theorem dX0_tickRunning_105 : decode cX0_tickRunning 105 = .ok (.aload_n 0, 1) := by decide +kernel
theorem dX0_tickRunning_106 : decode cX0_tickRunning 106 = .ok (.invokevirtual 123, 3) := by decide +kernel
theorem dX0_tickRunning_109 : decode cX0_tickRunning 109 = .ok (.invokevirtual 109, 3) := by decide +kernel
theorem dX0_tickRunning_112 : decode cX0_tickRunning 112 = .ok (.iconst 1, 1) := by decide +kernel
theorem dX0_tickRunning_113 : decode cX0_tickRunning 113 = .ok (.ireturn, 1) := by decide +kernel
theorem dX0_tickRunning_114 : decode cX0_tickRunning 114 = .ok (.aload_n 0, 1) := by decide +kernel
theorem dX0_tickRunning_115 : decode cX0_tickRunning 115 = .ok (.getfield 55, 3) := by decide +kernel
theorem dX0_tickRunning_118 : decode cX0_tickRunning 118 = .ok (.aload_n 0, 1) := by decide +kernel
theorem dX0_tickRunning_119 : decode cX0_tickRunning 119 = .ok (.getfield 18, 3) := by decide +kernel
theorem dX0_tickRunning_122 : decode cX0_tickRunning 122 = .ok (.bipush 6, 2) := by decide +kernel
theorem dX0_tickRunning_124 : decode cX0_tickRunning 124 = .ok (.iaload, 1) := by decide +kernel
theorem dX0_tickRunning_125 : decode cX0_tickRunning 125 = .ok (.if_icmp .ne 8, 3) := by decide +kernel
theorem dX0_tickRunning_128 : decode cX0_tickRunning 128 = .ok (.aload_n 0, 1) := by decide +kernel
theorem dX0_tickRunning_129 : decode cX0_tickRunning 129 = .ok (.iconst 0, 1) := by decide +kernel
theorem dX0_tickRunning_130 : decode cX0_tickRunning 130 = .ok (.putfield 49, 3) := by decide +kernel
theorem dX0_tickRunning_133 : decode cX0_tickRunning 133 = .ok (.iconst 0, 1) := by decide +kernel
theorem dX0_tickRunning_134 : decode cX0_tickRunning 134 = .ok (.ireturn, 1) := by decide +kernel
theorem dX0_supervise_0 : decode cX0_supervise 0 = .ok (.aload_n 0, 1) := by decide +kernel
theorem dX0_supervise_1 : decode cX0_supervise 1 = .ok (.dup, 1) := by decide +kernel
theorem dX0_supervise_2 : decode cX0_supervise 2 = .ok (.getfield 61, 3) := by decide +kernel
theorem dX0_supervise_5 : decode cX0_supervise 5 = .ok (.iconst 1, 1) := by decide +kernel
theorem dX0_supervise_6 : decode cX0_supervise 6 = .ok (.iadd, 1) := by decide +kernel
theorem dX0_supervise_7 : decode cX0_supervise 7 = .ok (.putfield 61, 3) := by decide +kernel
theorem dX0_supervise_10 : decode cX0_supervise 10 = .ok (.iconst 0, 1) := by decide +kernel
theorem dX0_supervise_11 : decode cX0_supervise 11 = .ok (.istore_n 1, 1) := by decide +kernel
theorem dX0_supervise_12 : decode cX0_supervise 12 = .ok (.iload_n 1, 1) := by decide +kernel
theorem dX0_supervise_13 : decode cX0_supervise 13 = .ok (.aload_n 0, 1) := by decide +kernel
theorem dX0_supervise_14 : decode cX0_supervise 14 = .ok (.getfield 36, 3) := by decide +kernel
theorem dX0_supervise_17 : decode cX0_supervise 17 = .ok (.if_icmp .ge 47, 3) := by decide +kernel
theorem dX0_supervise_20 : decode cX0_supervise 20 = .ok (.aload_n 0, 1) := by decide +kernel
theorem dX0_supervise_21 : decode cX0_supervise 21 = .ok (.getfield 25, 3) := by decide +kernel
theorem dX0_supervise_24 : decode cX0_supervise 24 = .ok (.iload_n 1, 1) := by decide +kernel
theorem dX0_supervise_25 : decode cX0_supervise 25 = .ok (.aaload, 1) := by decide +kernel
theorem dX0_supervise_26 : decode cX0_supervise 26 = .ok (.astore_n 2, 1) := by decide +kernel
theorem dX0_supervise_27 : decode cX0_supervise 27 = .ok (.aload_n 2, 1) := by decide +kernel
theorem dX0_supervise_28 : decode cX0_supervise 28 = .ok (.getfield 88, 3) := by decide +kernel
theorem dX0_supervise_31 : decode cX0_supervise 31 = .ok (.ifCond .ne 27, 3) := by decide +kernel
theorem dX0_supervise_34 : decode cX0_supervise 34 = .ok (.aload_n 2, 1) := by decide +kernel
theorem dX0_supervise_35 : decode cX0_supervise 35 = .ok (.getfield 127, 3) := by decide +kernel
theorem dX0_supervise_38 : decode cX0_supervise 38 = .ok (.iconst 3, 1) := by decide +kernel
theorem dX0_supervise_39 : decode cX0_supervise 39 = .ok (.iaload, 1) := by decide +kernel
theorem dX0_supervise_40 : decode cX0_supervise 40 = .ok (.aload_n 0, 1) := by decide +kernel
theorem dX0_supervise_41 : decode cX0_supervise 41 = .ok (.getfield 61, 3) := by decide +kernel
theorem dX0_supervise_44 : decode cX0_supervise 44 = .ok (.invokestatic 113, 3) := by decide +kernel
theorem dX0_supervise_47 : decode cX0_supervise 47 = .ok (.ifCond .eq 11, 3) := by decide +kernel
theorem dX0_supervise_50 : decode cX0_supervise 50 = .ok (.aload_n 2, 1) := by decide +kernel
theorem dX0_supervise_51 : decode cX0_supervise 51 = .ok (.aload_n 0, 1) := by decide +kernel
theorem dX0_supervise_52 : decode cX0_supervise 52 = .ok (.getfield 40, 3) := by decide +kernel
theorem dX0_supervise_55 : decode cX0_supervise 55 = .ok (.invokevirtual 130, 3) := by decide +kernel
theorem dX0_supervise_58 : decode cX0_supervise 58 = .ok (.iinc 1 1, 3) := by decide +kernel
theorem dX0_supervise_61 : decode cX0_supervise 61 = .ok (.goto (-49), 3) := by decide +kernel
theorem dX0_supervise_64 : decode cX0_supervise 64 = .ok (.aload_n 0, 1) := by decide +kernel
theorem dX0_supervise_65 : decode cX0_supervise 65 = .ok (.invokevirtual 123, 3) := by decide +kernel
theorem dX0_supervise_68 : decode cX0_supervise 68 = .ok (.bipush (-6), 2) := by decide +kernel
theorem dX0_supervise_70 : decode cX0_supervise 70 = .ok (.if_icmp .eq 13, 3) := by decide +kernel
theorem dX0_supervise_73 : decode cX0_supervise 73 = .ok (.aload_n 0, 1) := by decide +kernel
theorem dX0_supervise_74 : decode cX0_supervise 74 = .ok (.dup, 1) := by decide +kernel
theorem dX0_supervise_75 : decode cX0_supervise 75 = .ok (.getfield 64, 3) := by decide +kernel
theorem dX0_supervise_78 : decode cX0_supervise 78 = .ok (.iconst 1, 1) := by decide +kernel
theorem dX0_supervise_79 : decode cX0_supervise 79 = .ok (.iadd, 1) := by decide +kernel
theorem dX0_supervise_80 : decode cX0_supervise 80 = .ok (.putfield 64, 3) := by decide +kernel
theorem dX0_supervise_83 : decode cX0_supervise 83 = .ok (.aload_n 0, 1) := by decide +kernel
theorem dX0_supervise_84 : decode cX0_supervise 84 = .ok (.getfield 64, 3) := by decide +kernel
theorem dX0_supervise_87 : decode cX0_supervise 87 = .ok (.aload_n 0, 1) := by decide +kernel
theorem dX0_supervise_88 : decode cX0_supervise 88 = .ok (.getfield 18, 3) := by decide +kernel
theorem dX0_supervise_91 : decode cX0_supervise 91 = .ok (.iconst 4, 1) := by decide +kernel
theorem dX0_supervise_92 : decode cX0_supervise 92 = .ok (.iaload, 1) := by decide +kernel
theorem dX0_supervise_93 : decode cX0_supervise 93 = .ok (.if_icmp .gt 20, 3) := by decide +kernel
theorem dX0_supervise_96 : decode cX0_supervise 96 = .ok (.aload_n 0, 1) := by decide +kernel
theorem dX0_supervise_97 : decode cX0_supervise 97 = .ok (.getfield 58, 3) := by decide +kernel
theorem dX0_supervise_100 : decode cX0_supervise 100 = .ok (.aload_n 0, 1) := by decide +kernel
theorem dX0_supervise_101 : decode cX0_supervise 101 = .ok (.getfield 18, 3) := by decide +kernel
theorem dX0_supervise_104 : decode cX0_supervise 104 = .ok (.iconst 3, 1) := by decide +kernel
theorem dX0_supervise_105 : decode cX0_supervise 105 = .ok (.iaload, 1) := by decide +kernel
theorem dX0_supervise_106 : decode cX0_supervise 106 = .ok (.if_icmp .lt 7, 3) := by decide +kernel
theorem dX0_supervise_109 : decode cX0_supervise 109 = .ok (.iconst 1, 1) := by decide +kernel
theorem dX0_supervise_110 : decode cX0_supervise 110 = .ok (.goto 4, 3) := by decide +kernel
theorem dX0_supervise_113 : decode cX0_supervise 113 = .ok (.iconst 0, 1) := by decide +kernel
theorem dX0_supervise_114 : decode cX0_supervise 114 = .ok (.ireturn, 1) := by decide +kernel
theorem dX0_watch_0 : decode cX0_watch 0 = .ok (.iload_n 1, 1) := by decide +kernel
theorem dX0_watch_1 : decode cX0_watch 1 = .ok (.ifCond .eq 18, 3) := by decide +kernel
theorem dX0_watch_4 : decode cX0_watch 4 = .ok (.aload_n 0, 1) := by decide +kernel
theorem dX0_watch_5 : decode cX0_watch 5 = .ok (.getfield 58, 3) := by decide +kernel
theorem dX0_watch_8 : decode cX0_watch 8 = .ok (.aload_n 0, 1) := by decide +kernel
theorem dX0_watch_9 : decode cX0_watch 9 = .ok (.getfield 18, 3) := by decide +kernel
theorem dX0_watch_12 : decode cX0_watch 12 = .ok (.iconst 0, 1) := by decide +kernel
theorem dX0_watch_13 : decode cX0_watch 13 = .ok (.iaload, 1) := by decide +kernel
theorem dX0_watch_14 : decode cX0_watch 14 = .ok (.if_icmp .ge 5, 3) := by decide +kernel
theorem dX0_watch_17 : decode cX0_watch 17 = .ok (.iconst 1, 1) := by decide +kernel
theorem dX0_watch_18 : decode cX0_watch 18 = .ok (.ireturn, 1) := by decide +kernel
theorem dX0_watch_19 : decode cX0_watch 19 = .ok (.iload_n 1, 1) := by decide +kernel
theorem dX0_watch_20 : decode cX0_watch 20 = .ok (.ifCond .eq 10, 3) := by decide +kernel
theorem dX0_watch_23 : decode cX0_watch 23 = .ok (.aload_n 0, 1) := by decide +kernel
theorem dX0_watch_24 : decode cX0_watch 24 = .ok (.iconst 0, 1) := by decide +kernel
theorem dX0_watch_25 : decode cX0_watch 25 = .ok (.putfield 58, 3) := by decide +kernel
theorem dX0_watch_28 : decode cX0_watch 28 = .ok (.iconst 0, 1) := by decide +kernel
theorem dX0_watch_29 : decode cX0_watch 29 = .ok (.ireturn, 1) := by decide +kernel
theorem dX0_watch_30 : decode cX0_watch 30 = .ok (.aload_n 0, 1) := by decide +kernel
theorem dX0_watch_31 : decode cX0_watch 31 = .ok (.getfield 58, 3) := by decide +kernel
theorem dX0_watch_34 : decode cX0_watch 34 = .ok (.aload_n 0, 1) := by decide +kernel
theorem dX0_watch_35 : decode cX0_watch 35 = .ok (.getfield 18, 3) := by decide +kernel
theorem dX0_watch_38 : decode cX0_watch 38 = .ok (.iconst 1, 1) := by decide +kernel
theorem dX0_watch_39 : decode cX0_watch 39 = .ok (.iaload, 1) := by decide +kernel
theorem dX0_watch_40 : decode cX0_watch 40 = .ok (.if_icmp .le 7, 3) := by decide +kernel
theorem dX0_watch_43 : decode cX0_watch 43 = .ok (.iconst 2, 1) := by decide +kernel
theorem dX0_watch_44 : decode cX0_watch 44 = .ok (.goto 4, 3) := by decide +kernel
theorem dX0_watch_47 : decode cX0_watch 47 = .ok (.iconst 0, 1) := by decide +kernel
theorem dX0_watch_48 : decode cX0_watch 48 = .ok (.ireturn, 1) := by decide +kernel
theorem dX0_fall_0 : decode cX0_fall 0 = .ok (.aload_n 0, 1) := by decide +kernel
theorem dX0_fall_1 : decode cX0_fall 1 = .ok (.getfield 32, 3) := by decide +kernel
theorem dX0_fall_4 : decode cX0_fall 4 = .ok (.iload_n 1, 1) := by decide +kernel
theorem dX0_fall_5 : decode cX0_fall 5 = .ok (.aload_n 0, 1) := by decide +kernel
theorem dX0_fall_6 : decode cX0_fall 6 = .ok (.getfield 40, 3) := by decide +kernel
theorem dX0_fall_9 : decode cX0_fall 9 = .ok (.iload_n 2, 1) := by decide +kernel
theorem dX0_fall_10 : decode cX0_fall 10 = .ok (.aload_n 0, 1) := by decide +kernel
theorem dX0_fall_11 : decode cX0_fall 11 = .ok (.getfield 46, 3) := by decide +kernel
theorem dX0_fall_14 : decode cX0_fall 14 = .ok (.aload_n 0, 1) := by decide +kernel
theorem dX0_fall_15 : decode cX0_fall 15 = .ok (.getfield 55, 3) := by decide +kernel
theorem dX0_fall_18 : decode cX0_fall 18 = .ok (.invokevirtual 134, 3) := by decide +kernel
theorem dX0_fall_21 : decode cX0_fall 21 = .ok (.iload_n 2, 1) := by decide +kernel
theorem dX0_fall_22 : decode cX0_fall 22 = .ok (.ifCond .lt 26, 3) := by decide +kernel
theorem dX0_fall_25 : decode cX0_fall 25 = .ok (.iload_n 2, 1) := by decide +kernel
theorem dX0_fall_26 : decode cX0_fall 26 = .ok (.aload_n 0, 1) := by decide +kernel
theorem dX0_fall_27 : decode cX0_fall 27 = .ok (.getfield 36, 3) := by decide +kernel
theorem dX0_fall_30 : decode cX0_fall 30 = .ok (.if_icmp .ge 18, 3) := by decide +kernel
theorem dX0_fall_33 : decode cX0_fall 33 = .ok (.aload_n 0, 1) := by decide +kernel
theorem dX0_fall_34 : decode cX0_fall 34 = .ok (.getfield 25, 3) := by decide +kernel
theorem dX0_fall_37 : decode cX0_fall 37 = .ok (.iload_n 2, 1) := by decide +kernel
theorem dX0_fall_38 : decode cX0_fall 38 = .ok (.aaload, 1) := by decide +kernel
theorem dX0_fall_39 : decode cX0_fall 39 = .ok (.dup, 1) := by decide +kernel
theorem dX0_fall_40 : decode cX0_fall 40 = .ok (.getfield 138, 3) := by decide +kernel
theorem dX0_fall_43 : decode cX0_fall 43 = .ok (.iconst 1, 1) := by decide +kernel
theorem dX0_fall_44 : decode cX0_fall 44 = .ok (.iadd, 1) := by decide +kernel
theorem dX0_fall_45 : decode cX0_fall 45 = .ok (.putfield 138, 3) := by decide +kernel
theorem dX0_fall_48 : decode cX0_fall 48 = .ok (.aload_n 0, 1) := by decide +kernel
theorem dX0_fall_49 : decode cX0_fall 49 = .ok (.dup, 1) := by decide +kernel
theorem dX0_fall_50 : decode cX0_fall 50 = .ok (.getfield 49, 3) := by decide +kernel
theorem dX0_fall_53 : decode cX0_fall 53 = .ok (.iconst 1, 1) := by decide +kernel
theorem dX0_fall_54 : decode cX0_fall 54 = .ok (.iadd, 1) := by decide +kernel
theorem dX0_fall_55 : decode cX0_fall 55 = .ok (.putfield 49, 3) := by decide +kernel
theorem dX0_fall_58 : decode cX0_fall 58 = .ok (.aload_n 0, 1) := by decide +kernel
theorem dX0_fall_59 : decode cX0_fall 59 = .ok (.getfield 49, 3) := by decide +kernel
theorem dX0_fall_62 : decode cX0_fall 62 = .ok (.aload_n 0, 1) := by decide +kernel
theorem dX0_fall_63 : decode cX0_fall 63 = .ok (.getfield 18, 3) := by decide +kernel
theorem dX0_fall_66 : decode cX0_fall 66 = .ok (.bipush 7, 2) := by decide +kernel
theorem dX0_fall_68 : decode cX0_fall 68 = .ok (.iaload, 1) := by decide +kernel
theorem dX0_fall_69 : decode cX0_fall 69 = .ok (.if_icmp .lt 7, 3) := by decide +kernel
theorem dX0_fall_72 : decode cX0_fall 72 = .ok (.iconst 1, 1) := by decide +kernel
theorem dX0_fall_73 : decode cX0_fall 73 = .ok (.goto 4, 3) := by decide +kernel
theorem dX0_fall_76 : decode cX0_fall 76 = .ok (.iconst 0, 1) := by decide +kernel
theorem dX0_fall_77 : decode cX0_fall 77 = .ok (.istore_n 3, 1) := by decide +kernel
theorem dX0_fall_78 : decode cX0_fall 78 = .ok (.iload_n 3, 1) := by decide +kernel
theorem dX0_fall_79 : decode cX0_fall 79 = .ok (.ifCond .eq 17, 3) := by decide +kernel
theorem dX0_fall_82 : decode cX0_fall 82 = .ok (.aload_n 0, 1) := by decide +kernel
theorem dX0_fall_83 : decode cX0_fall 83 = .ok (.getfield 46, 3) := by decide +kernel
theorem dX0_fall_86 : decode cX0_fall 86 = .ok (.iconst 1, 1) := by decide +kernel
theorem dX0_fall_87 : decode cX0_fall 87 = .ok (.if_icmp .ne 9, 3) := by decide +kernel
theorem dX0_fall_90 : decode cX0_fall 90 = .ok (.aload_n 0, 1) := by decide +kernel
theorem dX0_fall_91 : decode cX0_fall 91 = .ok (.iconst 2, 1) := by decide +kernel
theorem dX0_fall_92 : decode cX0_fall 92 = .ok (.putfield 43, 3) := by decide +kernel
theorem dX0_fall_95 : decode cX0_fall 95 = .ok (.return_, 1) := by decide +kernel
theorem dX0_fall_96 : decode cX0_fall 96 = .ok (.iload_n 3, 1) := by decide +kernel
theorem dX0_fall_97 : decode cX0_fall 97 = .ok (.ifCond .eq 13, 3) := by decide +kernel
theorem dX0_fall_100 : decode cX0_fall 100 = .ok (.aload_n 0, 1) := by decide +kernel
theorem dX0_fall_101 : decode cX0_fall 101 = .ok (.iconst 1, 1) := by decide +kernel
theorem dX0_fall_102 : decode cX0_fall 102 = .ok (.putfield 46, 3) := by decide +kernel
theorem dX0_fall_105 : decode cX0_fall 105 = .ok (.aload_n 0, 1) := by decide +kernel
theorem dX0_fall_106 : decode cX0_fall 106 = .ok (.iconst 0, 1) := by decide +kernel
theorem dX0_fall_107 : decode cX0_fall 107 = .ok (.putfield 49, 3) := by decide +kernel
theorem dX0_fall_110 : decode cX0_fall 110 = .ok (.aload_n 0, 1) := by decide +kernel
theorem dX0_fall_111 : decode cX0_fall 111 = .ok (.invokevirtual 85, 3) := by decide +kernel
theorem dX0_fall_114 : decode cX0_fall 114 = .ok (.return_, 1) := by decide +kernel
theorem dX1_init_0 : decode cX1_init 0 = .ok (.aload_n 0, 1) := by decide +kernel
theorem dX1_init_1 : decode cX1_init 1 = .ok (.invokespecial 3, 3) := by decide +kernel
theorem dX1_init_4 : decode cX1_init 4 = .ok (.aload_n 0, 1) := by decide +kernel
theorem dX1_init_5 : decode cX1_init 5 = .ok (.bipush 80, 2) := by decide +kernel
theorem dX1_init_7 : decode cX1_init 7 = .ok (.newarray .int, 2) := by decide +kernel
theorem dX1_init_9 : decode cX1_init 9 = .ok (.putfield 9, 3) := by decide +kernel
theorem dX1_init_12 : decode cX1_init 12 = .ok (.aload_n 0, 1) := by decide +kernel
theorem dX1_init_13 : decode cX1_init 13 = .ok (.iconst 0, 1) := by decide +kernel
theorem dX1_init_14 : decode cX1_init 14 = .ok (.putfield 15, 3) := by decide +kernel
theorem dX1_init_17 : decode cX1_init 17 = .ok (.return_, 1) := by decide +kernel
theorem dX1_add_0 : decode cX1_add 0 = .ok (.aload_n 0, 1) := by decide +kernel
theorem dX1_add_1 : decode cX1_add 1 = .ok (.getfield 15, 3) := by decide +kernel
theorem dX1_add_4 : decode cX1_add 4 = .ok (.bipush 16, 2) := by decide +kernel
theorem dX1_add_6 : decode cX1_add 6 = .ok (.irem, 1) := by decide +kernel
theorem dX1_add_7 : decode cX1_add 7 = .ok (.iconst 5, 1) := by decide +kernel
theorem dX1_add_8 : decode cX1_add 8 = .ok (.imul, 1) := by decide +kernel
theorem dX1_add_9 : decode cX1_add 9 = .ok (.istore 6, 2) := by decide +kernel
theorem dX1_add_11 : decode cX1_add 11 = .ok (.aload_n 0, 1) := by decide +kernel
theorem dX1_add_12 : decode cX1_add 12 = .ok (.getfield 9, 3) := by decide +kernel
theorem dX1_add_15 : decode cX1_add 15 = .ok (.iload 6, 2) := by decide +kernel
theorem dX1_add_17 : decode cX1_add 17 = .ok (.iload_n 1, 1) := by decide +kernel
theorem dX1_add_18 : decode cX1_add 18 = .ok (.iastore, 1) := by decide +kernel
theorem dX1_add_19 : decode cX1_add 19 = .ok (.aload_n 0, 1) := by decide +kernel
theorem dX1_add_20 : decode cX1_add 20 = .ok (.getfield 9, 3) := by decide +kernel
theorem dX1_add_23 : decode cX1_add 23 = .ok (.iload 6, 2) := by decide +kernel
theorem dX1_add_25 : decode cX1_add 25 = .ok (.iconst 1, 1) := by decide +kernel
theorem dX1_add_26 : decode cX1_add 26 = .ok (.iadd, 1) := by decide +kernel
theorem dX1_add_27 : decode cX1_add 27 = .ok (.iload_n 2, 1) := by decide +kernel
theorem dX1_add_28 : decode cX1_add 28 = .ok (.iastore, 1) := by decide +kernel
theorem dX1_add_29 : decode cX1_add 29 = .ok (.aload_n 0, 1) := by decide +kernel
theorem dX1_add_30 : decode cX1_add 30 = .ok (.getfield 9, 3) := by decide +kernel
theorem dX1_add_33 : decode cX1_add 33 = .ok (.iload 6, 2) := by decide +kernel
theorem dX1_add_35 : decode cX1_add 35 = .ok (.iconst 2, 1) := by decide +kernel
theorem dX1_add_36 : decode cX1_add 36 = .ok (.iadd, 1) := by decide +kernel
theorem dX1_add_37 : decode cX1_add 37 = .ok (.iload_n 3, 1) := by decide +kernel
theorem dX1_add_38 : decode cX1_add 38 = .ok (.iastore, 1) := by decide +kernel
theorem dX1_add_39 : decode cX1_add 39 = .ok (.aload_n 0, 1) := by decide +kernel
theorem dX1_add_40 : decode cX1_add 40 = .ok (.getfield 9, 3) := by decide +kernel
theorem dX1_add_43 : decode cX1_add 43 = .ok (.iload 6, 2) := by decide +kernel
theorem dX1_add_45 : decode cX1_add 45 = .ok (.iconst 3, 1) := by decide +kernel
theorem dX1_add_46 : decode cX1_add 46 = .ok (.iadd, 1) := by decide +kernel
theorem dX1_add_47 : decode cX1_add 47 = .ok (.iload 4, 2) := by decide +kernel
theorem dX1_add_49 : decode cX1_add 49 = .ok (.iastore, 1) := by decide +kernel
theorem dX1_add_50 : decode cX1_add 50 = .ok (.aload_n 0, 1) := by decide +kernel
theorem dX1_add_51 : decode cX1_add 51 = .ok (.getfield 9, 3) := by decide +kernel
theorem dX1_add_54 : decode cX1_add 54 = .ok (.iload 6, 2) := by decide +kernel
theorem dX1_add_56 : decode cX1_add 56 = .ok (.iconst 4, 1) := by decide +kernel
theorem dX1_add_57 : decode cX1_add 57 = .ok (.iadd, 1) := by decide +kernel
theorem dX1_add_58 : decode cX1_add 58 = .ok (.iload 5, 2) := by decide +kernel
theorem dX1_add_60 : decode cX1_add 60 = .ok (.iastore, 1) := by decide +kernel
theorem dX1_add_61 : decode cX1_add 61 = .ok (.aload_n 0, 1) := by decide +kernel
theorem dX1_add_62 : decode cX1_add 62 = .ok (.dup, 1) := by decide +kernel
theorem dX1_add_63 : decode cX1_add 63 = .ok (.getfield 15, 3) := by decide +kernel
theorem dX1_add_66 : decode cX1_add 66 = .ok (.iconst 1, 1) := by decide +kernel
theorem dX1_add_67 : decode cX1_add 67 = .ok (.iadd, 1) := by decide +kernel
theorem dX1_add_68 : decode cX1_add 68 = .ok (.putfield 15, 3) := by decide +kernel
theorem dX1_add_71 : decode cX1_add 71 = .ok (.return_, 1) := by decide +kernel
theorem dX1_property_0 : decode cX1_property 0 = .ok (.iload_n 1, 1) := by decide +kernel
theorem dX1_property_1 : decode cX1_property 1 = .ok (.ifCond .lt 31, 3) := by decide +kernel
theorem dX1_property_4 : decode cX1_property 4 = .ok (.iload_n 1, 1) := by decide +kernel
theorem dX1_property_5 : decode cX1_property 5 = .ok (.aload_n 0, 1) := by decide +kernel
theorem dX1_property_6 : decode cX1_property 6 = .ok (.getfield 15, 3) := by decide +kernel
theorem dX1_property_9 : decode cX1_property 9 = .ok (.if_icmp .ge 23, 3) := by decide +kernel
theorem dX1_property_12 : decode cX1_property 12 = .ok (.iload_n 1, 1) := by decide +kernel
theorem dX1_property_13 : decode cX1_property 13 = .ok (.aload_n 0, 1) := by decide +kernel
theorem dX1_property_14 : decode cX1_property 14 = .ok (.getfield 15, 3) := by decide +kernel
theorem dX1_property_17 : decode cX1_property 17 = .ok (.bipush 16, 2) := by decide +kernel
theorem dX1_property_19 : decode cX1_property 19 = .ok (.isub, 1) := by decide +kernel
theorem dX1_property_20 : decode cX1_property 20 = .ok (.if_icmp .lt 12, 3) := by decide +kernel
theorem dX1_property_23 : decode cX1_property 23 = .ok (.iload_n 2, 1) := by decide +kernel
theorem dX1_property_24 : decode cX1_property 24 = .ok (.iconst 0, 1) := by decide +kernel
theorem dX1_property_25 : decode cX1_property 25 = .ok (.iconst 4, 1) := by decide +kernel
theorem dX1_property_26 : decode cX1_property 26 = .ok (.invokestatic 19, 3) := by decide +kernel
theorem dX1_property_29 : decode cX1_property 29 = .ok (.ifCond .ne 6, 3) := by decide +kernel
theorem dX1_property_32 : decode cX1_property 32 = .ok (.bipush (-6), 2) := by decide +kernel
theorem dX1_property_34 : decode cX1_property 34 = .ok (.ireturn, 1) := by decide +kernel
theorem dX1_property_35 : decode cX1_property 35 = .ok (.aload_n 0, 1) := by decide +kernel
theorem dX1_property_36 : decode cX1_property 36 = .ok (.getfield 9, 3) := by decide +kernel
theorem dX1_property_39 : decode cX1_property 39 = .ok (.iload_n 1, 1) := by decide +kernel
theorem dX1_property_40 : decode cX1_property 40 = .ok (.bipush 16, 2) := by decide +kernel
theorem dX1_property_42 : decode cX1_property 42 = .ok (.irem, 1) := by decide +kernel
theorem dX1_property_43 : decode cX1_property 43 = .ok (.iconst 5, 1) := by decide +kernel
theorem dX1_property_44 : decode cX1_property 44 = .ok (.imul, 1) := by decide +kernel
theorem dX1_property_45 : decode cX1_property 45 = .ok (.iload_n 2, 1) := by decide +kernel
theorem dX1_property_46 : decode cX1_property 46 = .ok (.iadd, 1) := by decide +kernel
theorem dX1_property_47 : decode cX1_property 47 = .ok (.iaload, 1) := by decide +kernel
theorem dX1_property_48 : decode cX1_property 48 = .ok (.ireturn, 1) := by decide +kernel
theorem dX1_become_0 : decode cX1_become 0 = .ok (.aload_n 1, 1) := by decide +kernel
theorem dX1_become_1 : decode cX1_become 1 = .ok (.getfield 9, 3) := by decide +kernel
theorem dX1_become_4 : decode cX1_become 4 = .ok (.iconst 0, 1) := by decide +kernel
theorem dX1_become_5 : decode cX1_become 5 = .ok (.aload_n 0, 1) := by decide +kernel
theorem dX1_become_6 : decode cX1_become 6 = .ok (.getfield 9, 3) := by decide +kernel
theorem dX1_become_9 : decode cX1_become 9 = .ok (.iconst 0, 1) := by decide +kernel
theorem dX1_become_10 : decode cX1_become 10 = .ok (.bipush 80, 2) := by decide +kernel
theorem dX1_become_12 : decode cX1_become 12 = .ok (.invokestatic 23, 3) := by decide +kernel
theorem dX1_become_15 : decode cX1_become 15 = .ok (.aload_n 0, 1) := by decide +kernel
theorem dX1_become_16 : decode cX1_become 16 = .ok (.aload_n 1, 1) := by decide +kernel
theorem dX1_become_17 : decode cX1_become 17 = .ok (.getfield 15, 3) := by decide +kernel
theorem dX1_become_20 : decode cX1_become 20 = .ok (.putfield 15, 3) := by decide +kernel
theorem dX1_become_23 : decode cX1_become 23 = .ok (.return_, 1) := by decide +kernel
theorem dX2_init_0 : decode cX2_init 0 = .ok (.aload_n 0, 1) := by decide +kernel
theorem dX2_init_1 : decode cX2_init 1 = .ok (.invokespecial 3, 3) := by decide +kernel
theorem dX2_init_4 : decode cX2_init 4 = .ok (.aload_n 0, 1) := by decide +kernel
theorem dX2_init_5 : decode cX2_init 5 = .ok (.bipush 60, 2) := by decide +kernel
theorem dX2_init_7 : decode cX2_init 7 = .ok (.newarray .char, 2) := by decide +kernel
theorem dX2_init_9 : decode cX2_init 9 = .ok (.putfield 9, 3) := by decide +kernel
theorem dX2_init_12 : decode cX2_init 12 = .ok (.aload_n 0, 1) := by decide +kernel
theorem dX2_init_13 : decode cX2_init 13 = .ok (.iconst 0, 1) := by decide +kernel
theorem dX2_init_14 : decode cX2_init 14 = .ok (.putfield 15, 3) := by decide +kernel
theorem dX2_init_17 : decode cX2_init 17 = .ok (.aload_n 0, 1) := by decide +kernel
theorem dX2_init_18 : decode cX2_init 18 = .ok (.iconst 0, 1) := by decide +kernel
theorem dX2_init_19 : decode cX2_init 19 = .ok (.putfield 19, 3) := by decide +kernel
theorem dX2_init_22 : decode cX2_init 22 = .ok (.aload_n 0, 1) := by decide +kernel
theorem dX2_init_23 : decode cX2_init 23 = .ok (.iconst 0, 1) := by decide +kernel
theorem dX2_init_24 : decode cX2_init 24 = .ok (.putfield 22, 3) := by decide +kernel
theorem dX2_init_27 : decode cX2_init 27 = .ok (.aload_n 0, 1) := by decide +kernel
theorem dX2_init_28 : decode cX2_init 28 = .ok (.bipush 20, 2) := by decide +kernel
theorem dX2_init_30 : decode cX2_init 30 = .ok (.newarray .int, 2) := by decide +kernel
theorem dX2_init_32 : decode cX2_init 32 = .ok (.putfield 25, 3) := by decide +kernel
theorem dX2_init_35 : decode cX2_init 35 = .ok (.aload_n 0, 1) := by decide +kernel
theorem dX2_init_36 : decode cX2_init 36 = .ok (.bipush 20, 2) := by decide +kernel
theorem dX2_init_38 : decode cX2_init 38 = .ok (.newarray .int, 2) := by decide +kernel
theorem dX2_init_40 : decode cX2_init 40 = .ok (.putfield 29, 3) := by decide +kernel
theorem dX2_init_43 : decode cX2_init 43 = .ok (.aload_n 0, 1) := by decide +kernel
theorem dX2_init_44 : decode cX2_init 44 = .ok (.bipush 20, 2) := by decide +kernel
theorem dX2_init_46 : decode cX2_init 46 = .ok (.newarray .int, 2) := by decide +kernel
theorem dX2_init_48 : decode cX2_init 48 = .ok (.putfield 32, 3) := by decide +kernel
theorem dX2_init_51 : decode cX2_init 51 = .ok (.aload_n 0, 1) := by decide +kernel
theorem dX2_init_52 : decode cX2_init 52 = .ok (.bipush 20, 2) := by decide +kernel
theorem dX2_init_54 : decode cX2_init 54 = .ok (.newarray .int, 2) := by decide +kernel
theorem dX2_init_56 : decode cX2_init 56 = .ok (.putfield 35, 3) := by decide +kernel
theorem dX2_init_59 : decode cX2_init 59 = .ok (.aload_n 0, 1) := by decide +kernel
theorem dX2_init_60 : decode cX2_init 60 = .ok (.bipush 20, 2) := by decide +kernel
theorem dX2_init_62 : decode cX2_init 62 = .ok (.newarray .int, 2) := by decide +kernel
theorem dX2_init_64 : decode cX2_init 64 = .ok (.putfield 38, 3) := by decide +kernel
theorem dX2_init_67 : decode cX2_init 67 = .ok (.return_, 1) := by decide +kernel
theorem dX3_init_0 : decode cX3_init 0 = .ok (.aload_n 0, 1) := by decide +kernel
theorem dX3_init_1 : decode cX3_init 1 = .ok (.invokespecial 3, 3) := by decide +kernel
theorem dX3_init_4 : decode cX3_init 4 = .ok (.aload_n 0, 1) := by decide +kernel
theorem dX3_init_5 : decode cX3_init 5 = .ok (.getstatic 9, 3) := by decide +kernel
theorem dX3_init_8 : decode cX3_init 8 = .ok (.invokevirtual 13, 3) := by decide +kernel
theorem dX3_init_11 : decode cX3_init 11 = .ok (.checkcast 14, 3) := by decide +kernel
theorem dX3_init_14 : decode cX3_init 14 = .ok (.putfield 18, 3) := by decide +kernel
theorem dX3_init_17 : decode cX3_init 17 = .ok (.aload_n 0, 1) := by decide +kernel
theorem dX3_init_18 : decode cX3_init 18 = .ok (.iconst 2, 1) := by decide +kernel
theorem dX3_init_19 : decode cX3_init 19 = .ok (.newarray .int, 2) := by decide +kernel
theorem dX3_init_21 : decode cX3_init 21 = .ok (.putfield 23, 3) := by decide +kernel
theorem dX3_init_24 : decode cX3_init 24 = .ok (.aload_n 0, 1) := by decide +kernel
theorem dX3_init_25 : decode cX3_init 25 = .ok (.iconst 2, 1) := by decide +kernel
theorem dX3_init_26 : decode cX3_init 26 = .ok (.newarray .int, 2) := by decide +kernel
theorem dX3_init_28 : decode cX3_init 28 = .ok (.putfield 26, 3) := by decide +kernel
theorem dX3_init_31 : decode cX3_init 31 = .ok (.aload_n 0, 1) := by decide +kernel
theorem dX3_init_32 : decode cX3_init 32 = .ok (.iconst 2, 1) := by decide +kernel
theorem dX3_init_33 : decode cX3_init 33 = .ok (.newarray .int, 2) := by decide +kernel
theorem dX3_init_35 : decode cX3_init 35 = .ok (.putfield 29, 3) := by decide +kernel
theorem dX3_init_38 : decode cX3_init 38 = .ok (.aload_n 0, 1) := by decide +kernel
theorem dX3_init_39 : decode cX3_init 39 = .ok (.iconst 0, 1) := by decide +kernel
theorem dX3_init_40 : decode cX3_init 40 = .ok (.putfield 32, 3) := by decide +kernel
theorem dX3_init_43 : decode cX3_init 43 = .ok (.aload_n 0, 1) := by decide +kernel
theorem dX3_init_44 : decode cX3_init 44 = .ok (.iconst 0, 1) := by decide +kernel
theorem dX3_init_45 : decode cX3_init 45 = .ok (.putfield 36, 3) := by decide +kernel
theorem dX3_init_48 : decode cX3_init 48 = .ok (.aload_n 0, 1) := by decide +kernel
theorem dX3_init_49 : decode cX3_init 49 = .ok (.iconst 0, 1) := by decide +kernel
theorem dX3_init_50 : decode cX3_init 50 = .ok (.putfield 39, 3) := by decide +kernel
theorem dX3_init_53 : decode cX3_init 53 = .ok (.aload_n 0, 1) := by decide +kernel
theorem dX3_init_54 : decode cX3_init 54 = .ok (.iconst 0, 1) := by decide +kernel
theorem dX3_init_55 : decode cX3_init 55 = .ok (.putfield 43, 3) := by decide +kernel
theorem dX3_init_58 : decode cX3_init 58 = .ok (.aload_n 0, 1) := by decide +kernel
theorem dX3_init_59 : decode cX3_init 59 = .ok (.iconst 0, 1) := by decide +kernel
theorem dX3_init_60 : decode cX3_init 60 = .ok (.putfield 46, 3) := by decide +kernel
theorem dX3_init_63 : decode cX3_init 63 = .ok (.aload_n 0, 1) := by decide +kernel
theorem dX3_init_64 : decode cX3_init 64 = .ok (.iconst 0, 1) := by decide +kernel
theorem dX3_init_65 : decode cX3_init 65 = .ok (.putfield 49, 3) := by decide +kernel
theorem dX3_init_68 : decode cX3_init 68 = .ok (.aload_n 0, 1) := by decide +kernel
theorem dX3_init_69 : decode cX3_init 69 = .ok (.iconst 0, 1) := by decide +kernel
theorem dX3_init_70 : decode cX3_init 70 = .ok (.putfield 52, 3) := by decide +kernel
theorem dX3_init_73 : decode cX3_init 73 = .ok (.aload_n 0, 1) := by decide +kernel
theorem dX3_init_74 : decode cX3_init 74 = .ok (.iconst 0, 1) := by decide +kernel
theorem dX3_init_75 : decode cX3_init 75 = .ok (.putfield 55, 3) := by decide +kernel
theorem dX3_init_78 : decode cX3_init 78 = .ok (.aload_n 0, 1) := by decide +kernel
theorem dX3_init_79 : decode cX3_init 79 = .ok (.iconst 0, 1) := by decide +kernel
theorem dX3_init_80 : decode cX3_init 80 = .ok (.putfield 58, 3) := by decide +kernel
theorem dX3_init_83 : decode cX3_init 83 = .ok (.aload_n 0, 1) := by decide +kernel
theorem dX3_init_84 : decode cX3_init 84 = .ok (.iconst 0, 1) := by decide +kernel
theorem dX3_init_85 : decode cX3_init 85 = .ok (.putfield 61, 3) := by decide +kernel
theorem dX3_init_88 : decode cX3_init 88 = .ok (.aload_n 0, 1) := by decide +kernel
theorem dX3_init_89 : decode cX3_init 89 = .ok (.iconst 0, 1) := by decide +kernel
theorem dX3_init_90 : decode cX3_init 90 = .ok (.putfield 64, 3) := by decide +kernel
theorem dX3_init_93 : decode cX3_init 93 = .ok (.aload_n 0, 1) := by decide +kernel
theorem dX3_init_94 : decode cX3_init 94 = .ok (.iconst 0, 1) := by decide +kernel
theorem dX3_init_95 : decode cX3_init 95 = .ok (.putfield 67, 3) := by decide +kernel
theorem dX3_init_98 : decode cX3_init 98 = .ok (.return_, 1) := by decide +kernel
theorem dX3_becomeNew_0 : decode cX3_becomeNew 0 = .ok (.getstatic 9, 3) := by decide +kernel
theorem dX3_becomeNew_3 : decode cX3_becomeNew 3 = .ok (.iconst 0, 1) := by decide +kernel
theorem dX3_becomeNew_4 : decode cX3_becomeNew 4 = .ok (.aload_n 0, 1) := by decide +kernel
theorem dX3_becomeNew_5 : decode cX3_becomeNew 5 = .ok (.getfield 18, 3) := by decide +kernel
theorem dX3_becomeNew_8 : decode cX3_becomeNew 8 = .ok (.iconst 0, 1) := by decide +kernel
theorem dX3_becomeNew_9 : decode cX3_becomeNew 9 = .ok (.bipush 8, 2) := by decide +kernel
theorem dX3_becomeNew_11 : decode cX3_becomeNew 11 = .ok (.invokestatic 70, 3) := by decide +kernel
theorem dX3_becomeNew_14 : decode cX3_becomeNew 14 = .ok (.aload_n 0, 1) := by decide +kernel
theorem dX3_becomeNew_15 : decode cX3_becomeNew 15 = .ok (.getfield 18, 3) := by decide +kernel
theorem dX3_becomeNew_18 : decode cX3_becomeNew 18 = .ok (.iconst 0, 1) := by decide +kernel
theorem dX3_becomeNew_19 : decode cX3_becomeNew 19 = .ok (.iload_n 1, 1) := by decide +kernel
theorem dX3_becomeNew_20 : decode cX3_becomeNew 20 = .ok (.iastore, 1) := by decide +kernel
theorem dX3_becomeNew_21 : decode cX3_becomeNew 21 = .ok (.aload_n 0, 1) := by decide +kernel
theorem dX3_becomeNew_22 : decode cX3_becomeNew 22 = .ok (.getfield 18, 3) := by decide +kernel
theorem dX3_becomeNew_25 : decode cX3_becomeNew 25 = .ok (.iconst 1, 1) := by decide +kernel
theorem dX3_becomeNew_26 : decode cX3_becomeNew 26 = .ok (.iload_n 2, 1) := by decide +kernel
theorem dX3_becomeNew_27 : decode cX3_becomeNew 27 = .ok (.iastore, 1) := by decide +kernel
theorem dX3_becomeNew_28 : decode cX3_becomeNew 28 = .ok (.iconst 0, 1) := by decide +kernel
theorem dX3_becomeNew_29 : decode cX3_becomeNew 29 = .ok (.istore_n 3, 1) := by decide +kernel
theorem dX3_becomeNew_30 : decode cX3_becomeNew 30 = .ok (.iload_n 3, 1) := by decide +kernel
theorem dX3_becomeNew_31 : decode cX3_becomeNew 31 = .ok (.iconst 2, 1) := by decide +kernel
theorem dX3_becomeNew_32 : decode cX3_becomeNew 32 = .ok (.if_icmp .ge 17, 3) := by decide +kernel
theorem dX3_becomeNew_35 : decode cX3_becomeNew 35 = .ok (.aload_n 0, 1) := by decide +kernel
theorem dX3_becomeNew_36 : decode cX3_becomeNew 36 = .ok (.iload_n 3, 1) := by decide +kernel
theorem dX3_becomeNew_37 : decode cX3_becomeNew 37 = .ok (.iconst 0, 1) := by decide +kernel
theorem dX3_becomeNew_38 : decode cX3_becomeNew 38 = .ok (.iconst 0, 1) := by decide +kernel
theorem dX3_becomeNew_39 : decode cX3_becomeNew 39 = .ok (.iconst 0, 1) := by decide +kernel
theorem dX3_becomeNew_40 : decode cX3_becomeNew 40 = .ok (.invokevirtual 76, 3) := by decide +kernel
theorem dX3_becomeNew_43 : decode cX3_becomeNew 43 = .ok (.iinc 3 1, 3) := by decide +kernel
theorem dX3_becomeNew_46 : decode cX3_becomeNew 46 = .ok (.goto (-16), 3) := by decide +kernel
theorem dX3_becomeNew_49 : decode cX3_becomeNew 49 = .ok (.aload_n 0, 1) := by decide +kernel
theorem dX3_becomeNew_50 : decode cX3_becomeNew 50 = .ok (.invokevirtual 80, 3) := by decide +kernel
theorem dX3_becomeNew_53 : decode cX3_becomeNew 53 = .ok (.aload_n 0, 1) := by decide +kernel
theorem dX3_becomeNew_54 : decode cX3_becomeNew 54 = .ok (.invokevirtual 83, 3) := by decide +kernel
theorem dX3_becomeNew_57 : decode cX3_becomeNew 57 = .ok (.return_, 1) := by decide +kernel
theorem dX3_become_0 : decode cX3_become 0 = .ok (.aload_n 1, 1) := by decide +kernel
theorem dX3_become_1 : decode cX3_become 1 = .ok (.getfield 18, 3) := by decide +kernel
theorem dX3_become_4 : decode cX3_become 4 = .ok (.iconst 0, 1) := by decide +kernel
theorem dX3_become_5 : decode cX3_become 5 = .ok (.aload_n 0, 1) := by decide +kernel
theorem dX3_become_6 : decode cX3_become 6 = .ok (.getfield 18, 3) := by decide +kernel
theorem dX3_become_9 : decode cX3_become 9 = .ok (.iconst 0, 1) := by decide +kernel
theorem dX3_become_10 : decode cX3_become 10 = .ok (.bipush 8, 2) := by decide +kernel
theorem dX3_become_12 : decode cX3_become 12 = .ok (.invokestatic 70, 3) := by decide +kernel
theorem dX3_become_15 : decode cX3_become 15 = .ok (.aload_n 1, 1) := by decide +kernel
theorem dX3_become_16 : decode cX3_become 16 = .ok (.getfield 23, 3) := by decide +kernel
theorem dX3_become_19 : decode cX3_become 19 = .ok (.iconst 0, 1) := by decide +kernel
theorem dX3_become_20 : decode cX3_become 20 = .ok (.aload_n 0, 1) := by decide +kernel
theorem dX3_become_21 : decode cX3_become 21 = .ok (.getfield 23, 3) := by decide +kernel
theorem dX3_become_24 : decode cX3_become 24 = .ok (.iconst 0, 1) := by decide +kernel
theorem dX3_become_25 : decode cX3_become 25 = .ok (.iconst 2, 1) := by decide +kernel
theorem dX3_become_26 : decode cX3_become 26 = .ok (.invokestatic 70, 3) := by decide +kernel
theorem dX3_become_29 : decode cX3_become 29 = .ok (.aload_n 1, 1) := by decide +kernel
theorem dX3_become_30 : decode cX3_become 30 = .ok (.getfield 26, 3) := by decide +kernel
theorem dX3_become_33 : decode cX3_become 33 = .ok (.iconst 0, 1) := by decide +kernel
theorem dX3_become_34 : decode cX3_become 34 = .ok (.aload_n 0, 1) := by decide +kernel
theorem dX3_become_35 : decode cX3_become 35 = .ok (.getfield 26, 3) := by decide +kernel
theorem dX3_become_38 : decode cX3_become 38 = .ok (.iconst 0, 1) := by decide +kernel
theorem dX3_become_39 : decode cX3_become 39 = .ok (.iconst 2, 1) := by decide +kernel
theorem dX3_become_40 : decode cX3_become 40 = .ok (.invokestatic 70, 3) := by decide +kernel
theorem dX3_become_43 : decode cX3_become 43 = .ok (.aload_n 1, 1) := by decide +kernel
theorem dX3_become_44 : decode cX3_become 44 = .ok (.getfield 29, 3) := by decide +kernel
theorem dX3_become_47 : decode cX3_become 47 = .ok (.iconst 0, 1) := by decide +kernel
theorem dX3_become_48 : decode cX3_become 48 = .ok (.aload_n 0, 1) := by decide +kernel
theorem dX3_become_49 : decode cX3_become 49 = .ok (.getfield 29, 3) := by decide +kernel
theorem dX3_become_52 : decode cX3_become 52 = .ok (.iconst 0, 1) := by decide +kernel
theorem dX3_become_53 : decode cX3_become 53 = .ok (.iconst 2, 1) := by decide +kernel
theorem dX3_become_54 : decode cX3_become 54 = .ok (.invokestatic 70, 3) := by decide +kernel
theorem dX3_become_57 : decode cX3_become 57 = .ok (.aload_n 0, 1) := by decide +kernel
theorem dX3_become_58 : decode cX3_become 58 = .ok (.aload_n 1, 1) := by decide +kernel
theorem dX3_become_59 : decode cX3_become 59 = .ok (.getfield 32, 3) := by decide +kernel
theorem dX3_become_62 : decode cX3_become 62 = .ok (.putfield 32, 3) := by decide +kernel
theorem dX3_become_65 : decode cX3_become 65 = .ok (.aload_n 0, 1) := by decide +kernel
theorem dX3_become_66 : decode cX3_become 66 = .ok (.aload_n 1, 1) := by decide +kernel
theorem dX3_become_67 : decode cX3_become 67 = .ok (.getfield 36, 3) := by decide +kernel
theorem dX3_become_70 : decode cX3_become 70 = .ok (.putfield 36, 3) := by decide +kernel
theorem dX3_become_73 : decode cX3_become 73 = .ok (.aload_n 0, 1) := by decide +kernel
theorem dX3_become_74 : decode cX3_become 74 = .ok (.aload_n 1, 1) := by decide +kernel
theorem dX3_become_75 : decode cX3_become 75 = .ok (.getfield 39, 3) := by decide +kernel
theorem dX3_become_78 : decode cX3_become 78 = .ok (.putfield 39, 3) := by decide +kernel
theorem dX3_become_81 : decode cX3_become 81 = .ok (.aload_n 0, 1) := by decide +kernel
theorem dX3_become_82 : decode cX3_become 82 = .ok (.aload_n 1, 1) := by decide +kernel
theorem dX3_become_83 : decode cX3_become 83 = .ok (.getfield 43, 3) := by decide +kernel
theorem dX3_become_86 : decode cX3_become 86 = .ok (.putfield 43, 3) := by decide +kernel
theorem dX3_become_89 : decode cX3_become 89 = .ok (.aload_n 0, 1) := by decide +kernel
theorem dX3_become_90 : decode cX3_become 90 = .ok (.aload_n 1, 1) := by decide +kernel
theorem dX3_become_91 : decode cX3_become 91 = .ok (.getfield 46, 3) := by decide +kernel
theorem dX3_become_94 : decode cX3_become 94 = .ok (.putfield 46, 3) := by decide +kernel
theorem dX3_become_97 : decode cX3_become 97 = .ok (.aload_n 0, 1) := by decide +kernel
theorem dX3_become_98 : decode cX3_become 98 = .ok (.aload_n 1, 1) := by decide +kernel
theorem dX3_become_99 : decode cX3_become 99 = .ok (.getfield 49, 3) := by decide +kernel
theorem dX3_become_102 : decode cX3_become 102 = .ok (.putfield 49, 3) := by decide +kernel
theorem dX3_become_105 : decode cX3_become 105 = .ok (.aload_n 0, 1) := by decide +kernel
theorem dX3_become_106 : decode cX3_become 106 = .ok (.aload_n 1, 1) := by decide +kernel
theorem dX3_become_107 : decode cX3_become 107 = .ok (.getfield 52, 3) := by decide +kernel
theorem dX3_become_110 : decode cX3_become 110 = .ok (.putfield 52, 3) := by decide +kernel
theorem dX3_become_113 : decode cX3_become 113 = .ok (.aload_n 0, 1) := by decide +kernel
theorem dX3_become_114 : decode cX3_become 114 = .ok (.aload_n 1, 1) := by decide +kernel
theorem dX3_become_115 : decode cX3_become 115 = .ok (.getfield 55, 3) := by decide +kernel
theorem dX3_become_118 : decode cX3_become 118 = .ok (.putfield 55, 3) := by decide +kernel
theorem dX3_become_121 : decode cX3_become 121 = .ok (.aload_n 0, 1) := by decide +kernel
theorem dX3_become_122 : decode cX3_become 122 = .ok (.aload_n 1, 1) := by decide +kernel
theorem dX3_become_123 : decode cX3_become 123 = .ok (.getfield 58, 3) := by decide +kernel
theorem dX3_become_126 : decode cX3_become 126 = .ok (.putfield 58, 3) := by decide +kernel
theorem dX3_become_129 : decode cX3_become 129 = .ok (.aload_n 0, 1) := by decide +kernel
theorem dX3_become_130 : decode cX3_become 130 = .ok (.aload_n 1, 1) := by decide +kernel
theorem dX3_become_131 : decode cX3_become 131 = .ok (.getfield 61, 3) := by decide +kernel
theorem dX3_become_134 : decode cX3_become 134 = .ok (.putfield 61, 3) := by decide +kernel
theorem dX3_become_137 : decode cX3_become 137 = .ok (.aload_n 0, 1) := by decide +kernel
theorem dX3_become_138 : decode cX3_become 138 = .ok (.aload_n 1, 1) := by decide +kernel
theorem dX3_become_139 : decode cX3_become 139 = .ok (.getfield 64, 3) := by decide +kernel
theorem dX3_become_142 : decode cX3_become 142 = .ok (.putfield 64, 3) := by decide +kernel
theorem dX3_become_145 : decode cX3_become 145 = .ok (.aload_n 0, 1) := by decide +kernel
theorem dX3_become_146 : decode cX3_become 146 = .ok (.aload_n 1, 1) := by decide +kernel
theorem dX3_become_147 : decode cX3_become 147 = .ok (.getfield 67, 3) := by decide +kernel
theorem dX3_become_150 : decode cX3_become 150 = .ok (.putfield 67, 3) := by decide +kernel
theorem dX3_become_153 : decode cX3_become 153 = .ok (.return_, 1) := by decide +kernel
theorem dX3_takeFault_0 : decode cX3_takeFault 0 = .ok (.iload_n 1, 1) := by decide +kernel
theorem dX3_takeFault_1 : decode cX3_takeFault 1 = .ok (.ifCond .lt 8, 3) := by decide +kernel
theorem dX3_takeFault_4 : decode cX3_takeFault 4 = .ok (.iload_n 1, 1) := by decide +kernel
theorem dX3_takeFault_5 : decode cX3_takeFault 5 = .ok (.iconst 2, 1) := by decide +kernel
theorem dX3_takeFault_6 : decode cX3_takeFault 6 = .ok (.if_icmp .lt 4, 3) := by decide +kernel
theorem dX3_takeFault_9 : decode cX3_takeFault 9 = .ok (.return_, 1) := by decide +kernel
theorem dX3_takeFault_10 : decode cX3_takeFault 10 = .ok (.aload_n 0, 1) := by decide +kernel
theorem dX3_takeFault_11 : decode cX3_takeFault 11 = .ok (.getfield 23, 3) := by decide +kernel
theorem dX3_takeFault_14 : decode cX3_takeFault 14 = .ok (.iload_n 1, 1) := by decide +kernel
theorem dX3_takeFault_15 : decode cX3_takeFault 15 = .ok (.iload_n 2, 1) := by decide +kernel
theorem dX3_takeFault_16 : decode cX3_takeFault 16 = .ok (.iastore, 1) := by decide +kernel
theorem dX3_takeFault_17 : decode cX3_takeFault 17 = .ok (.aload_n 0, 1) := by decide +kernel
theorem dX3_takeFault_18 : decode cX3_takeFault 18 = .ok (.getfield 26, 3) := by decide +kernel
theorem dX3_takeFault_21 : decode cX3_takeFault 21 = .ok (.iload_n 1, 1) := by decide +kernel
theorem dX3_takeFault_22 : decode cX3_takeFault 22 = .ok (.iload_n 3, 1) := by decide +kernel
theorem dX3_takeFault_23 : decode cX3_takeFault 23 = .ok (.iastore, 1) := by decide +kernel
theorem dX3_takeFault_24 : decode cX3_takeFault 24 = .ok (.aload_n 0, 1) := by decide +kernel
theorem dX3_takeFault_25 : decode cX3_takeFault 25 = .ok (.getfield 29, 3) := by decide +kernel
theorem dX3_takeFault_28 : decode cX3_takeFault 28 = .ok (.iload_n 1, 1) := by decide +kernel
theorem dX3_takeFault_29 : decode cX3_takeFault 29 = .ok (.iload 4, 2) := by decide +kernel
theorem dX3_takeFault_31 : decode cX3_takeFault 31 = .ok (.iastore, 1) := by decide +kernel
theorem dX3_takeFault_32 : decode cX3_takeFault 32 = .ok (.return_, 1) := by decide +kernel
theorem dX3_beginRun_0 : decode cX3_beginRun 0 = .ok (.aload_n 0, 1) := by decide +kernel
theorem dX3_beginRun_1 : decode cX3_beginRun 1 = .ok (.iconst 0, 1) := by decide +kernel
theorem dX3_beginRun_2 : decode cX3_beginRun 2 = .ok (.putfield 32, 3) := by decide +kernel
theorem dX3_beginRun_5 : decode cX3_beginRun 5 = .ok (.aload_n 0, 1) := by decide +kernel
theorem dX3_beginRun_6 : decode cX3_beginRun 6 = .ok (.iconst 0, 1) := by decide +kernel
theorem dX3_beginRun_7 : decode cX3_beginRun 7 = .ok (.putfield 46, 3) := by decide +kernel
theorem dX3_beginRun_10 : decode cX3_beginRun 10 = .ok (.aload_n 0, 1) := by decide +kernel
theorem dX3_beginRun_11 : decode cX3_beginRun 11 = .ok (.iconst 0, 1) := by decide +kernel
theorem dX3_beginRun_12 : decode cX3_beginRun 12 = .ok (.putfield 49, 3) := by decide +kernel
theorem dX3_beginRun_15 : decode cX3_beginRun 15 = .ok (.aload_n 0, 1) := by decide +kernel
theorem dX3_beginRun_16 : decode cX3_beginRun 16 = .ok (.iconst 0, 1) := by decide +kernel
theorem dX3_beginRun_17 : decode cX3_beginRun 17 = .ok (.putfield 52, 3) := by decide +kernel
theorem dX3_beginRun_20 : decode cX3_beginRun 20 = .ok (.aload_n 0, 1) := by decide +kernel
theorem dX3_beginRun_21 : decode cX3_beginRun 21 = .ok (.iconst 0, 1) := by decide +kernel
theorem dX3_beginRun_22 : decode cX3_beginRun 22 = .ok (.putfield 55, 3) := by decide +kernel
theorem dX3_beginRun_25 : decode cX3_beginRun 25 = .ok (.return_, 1) := by decide +kernel
theorem dX3_clearDiagnostic_0 : decode cX3_clearDiagnostic 0 = .ok (.aload_n 0, 1) := by decide +kernel
theorem dX3_clearDiagnostic_1 : decode cX3_clearDiagnostic 1 = .ok (.iconst 0, 1) := by decide +kernel
theorem dX3_clearDiagnostic_2 : decode cX3_clearDiagnostic 2 = .ok (.putfield 58, 3) := by decide +kernel
theorem dX3_clearDiagnostic_5 : decode cX3_clearDiagnostic 5 = .ok (.aload_n 0, 1) := by decide +kernel
theorem dX3_clearDiagnostic_6 : decode cX3_clearDiagnostic 6 = .ok (.iconst 0, 1) := by decide +kernel
theorem dX3_clearDiagnostic_7 : decode cX3_clearDiagnostic 7 = .ok (.putfield 61, 3) := by decide +kernel
theorem dX3_clearDiagnostic_10 : decode cX3_clearDiagnostic 10 = .ok (.aload_n 0, 1) := by decide +kernel
theorem dX3_clearDiagnostic_11 : decode cX3_clearDiagnostic 11 = .ok (.iconst 0, 1) := by decide +kernel
theorem dX3_clearDiagnostic_12 : decode cX3_clearDiagnostic 12 = .ok (.putfield 67, 3) := by decide +kernel
theorem dX3_clearDiagnostic_15 : decode cX3_clearDiagnostic 15 = .ok (.return_, 1) := by decide +kernel
theorem dX3_momentary_0 : decode cX3_momentary 0 = .ok (.iload_n 1, 1) := by decide +kernel
theorem dX3_momentary_1 : decode cX3_momentary 1 = .ok (.tableswitch 94 8 12 #[35, 48, 71, 76, 81], 35) := by decide +kernel
theorem dX3_momentary_36 : decode cX3_momentary 36 = .ok (.aload_n 0, 1) := by decide +kernel
theorem dX3_momentary_37 : decode cX3_momentary 37 = .ok (.getfield 32, 3) := by decide +kernel
theorem dX3_momentary_40 : decode cX3_momentary 40 = .ok (.ifCond .eq 7, 3) := by decide +kernel
theorem dX3_momentary_43 : decode cX3_momentary 43 = .ok (.iconst 1, 1) := by decide +kernel
theorem dX3_momentary_44 : decode cX3_momentary 44 = .ok (.goto 4, 3) := by decide +kernel
theorem dX3_momentary_47 : decode cX3_momentary 47 = .ok (.iconst 0, 1) := by decide +kernel
theorem dX3_momentary_48 : decode cX3_momentary 48 = .ok (.ireturn, 1) := by decide +kernel
theorem dX3_momentary_49 : decode cX3_momentary 49 = .ok (.aload_n 0, 1) := by decide +kernel
theorem dX3_momentary_50 : decode cX3_momentary 50 = .ok (.getfield 32, 3) := by decide +kernel
theorem dX3_momentary_53 : decode cX3_momentary 53 = .ok (.ifCond .eq 17, 3) := by decide +kernel
theorem dX3_momentary_56 : decode cX3_momentary 56 = .ok (.aload_n 0, 1) := by decide +kernel
theorem dX3_momentary_57 : decode cX3_momentary 57 = .ok (.getfield 36, 3) := by decide +kernel
theorem dX3_momentary_60 : decode cX3_momentary 60 = .ok (.ifCond .ne 10, 3) := by decide +kernel
theorem dX3_momentary_63 : decode cX3_momentary 63 = .ok (.aload_n 0, 1) := by decide +kernel
theorem dX3_momentary_64 : decode cX3_momentary 64 = .ok (.getfield 43, 3) := by decide +kernel
theorem dX3_momentary_67 : decode cX3_momentary 67 = .ok (.goto 4, 3) := by decide +kernel
theorem dX3_momentary_70 : decode cX3_momentary 70 = .ok (.iconst 0, 1) := by decide +kernel
theorem dX3_momentary_71 : decode cX3_momentary 71 = .ok (.ireturn, 1) := by decide +kernel
theorem dX3_momentary_72 : decode cX3_momentary 72 = .ok (.aload_n 0, 1) := by decide +kernel
theorem dX3_momentary_73 : decode cX3_momentary 73 = .ok (.getfield 46, 3) := by decide +kernel
theorem dX3_momentary_76 : decode cX3_momentary 76 = .ok (.ireturn, 1) := by decide +kernel
theorem dX3_momentary_77 : decode cX3_momentary 77 = .ok (.aload_n 0, 1) := by decide +kernel
theorem dX3_momentary_78 : decode cX3_momentary 78 = .ok (.getfield 49, 3) := by decide +kernel
theorem dX3_momentary_81 : decode cX3_momentary 81 = .ok (.ireturn, 1) := by decide +kernel
theorem dX3_momentary_82 : decode cX3_momentary 82 = .ok (.aload_n 0, 1) := by decide +kernel
theorem dX3_momentary_83 : decode cX3_momentary 83 = .ok (.getfield 52, 3) := by decide +kernel
theorem dX3_momentary_86 : decode cX3_momentary 86 = .ok (.ifCond .eq 7, 3) := by decide +kernel
theorem dX3_momentary_89 : decode cX3_momentary 89 = .ok (.iconst 1, 1) := by decide +kernel
theorem dX3_momentary_90 : decode cX3_momentary 90 = .ok (.goto 4, 3) := by decide +kernel
theorem dX3_momentary_93 : decode cX3_momentary 93 = .ok (.iconst 0, 1) := by decide +kernel
theorem dX3_momentary_94 : decode cX3_momentary 94 = .ok (.ireturn, 1) := by decide +kernel
theorem dX3_momentary_95 : decode cX3_momentary 95 = .ok (.aload_n 0, 1) := by decide +kernel
theorem dX3_momentary_96 : decode cX3_momentary 96 = .ok (.getfield 55, 3) := by decide +kernel
theorem dX3_momentary_99 : decode cX3_momentary 99 = .ok (.ifCond .eq 7, 3) := by decide +kernel
theorem dX3_momentary_102 : decode cX3_momentary 102 = .ok (.iconst 1, 1) := by decide +kernel
theorem dX3_momentary_103 : decode cX3_momentary 103 = .ok (.goto 4, 3) := by decide +kernel
theorem dX3_momentary_106 : decode cX3_momentary 106 = .ok (.iconst 0, 1) := by decide +kernel
theorem dX3_momentary_107 : decode cX3_momentary 107 = .ok (.ireturn, 1) := by decide +kernel
theorem dX3_crashesInTick_0 : decode cX3_crashesInTick 0 = .ok (.aload_n 0, 1) := by decide +kernel
theorem dX3_crashesInTick_1 : decode cX3_crashesInTick 1 = .ok (.getfield 32, 3) := by decide +kernel
theorem dX3_crashesInTick_4 : decode cX3_crashesInTick 4 = .ok (.ifCond .eq 36, 3) := by decide +kernel
theorem dX3_crashesInTick_7 : decode cX3_crashesInTick 7 = .ok (.aload_n 0, 1) := by decide +kernel
theorem dX3_crashesInTick_8 : decode cX3_crashesInTick 8 = .ok (.getfield 36, 3) := by decide +kernel
theorem dX3_crashesInTick_11 : decode cX3_crashesInTick 11 = .ok (.ifCond .ne 29, 3) := by decide +kernel
theorem dX3_crashesInTick_14 : decode cX3_crashesInTick 14 = .ok (.aload_n 0, 1) := by decide +kernel
theorem dX3_crashesInTick_15 : decode cX3_crashesInTick 15 = .ok (.dup, 1) := by decide +kernel
theorem dX3_crashesInTick_16 : decode cX3_crashesInTick 16 = .ok (.getfield 43, 3) := by decide +kernel
theorem dX3_crashesInTick_19 : decode cX3_crashesInTick 19 = .ok (.iconst 1, 1) := by decide +kernel
theorem dX3_crashesInTick_20 : decode cX3_crashesInTick 20 = .ok (.isub, 1) := by decide +kernel
theorem dX3_crashesInTick_21 : decode cX3_crashesInTick 21 = .ok (.putfield 43, 3) := by decide +kernel
theorem dX3_crashesInTick_24 : decode cX3_crashesInTick 24 = .ok (.aload_n 0, 1) := by decide +kernel
theorem dX3_crashesInTick_25 : decode cX3_crashesInTick 25 = .ok (.aload_n 0, 1) := by decide +kernel
theorem dX3_crashesInTick_26 : decode cX3_crashesInTick 26 = .ok (.getfield 43, 3) := by decide +kernel
theorem dX3_crashesInTick_29 : decode cX3_crashesInTick 29 = .ok (.ifCond .le 7, 3) := by decide +kernel
theorem dX3_crashesInTick_32 : decode cX3_crashesInTick 32 = .ok (.iconst 1, 1) := by decide +kernel
theorem dX3_crashesInTick_33 : decode cX3_crashesInTick 33 = .ok (.goto 4, 3) := by decide +kernel
theorem dX3_crashesInTick_36 : decode cX3_crashesInTick 36 = .ok (.iconst 0, 1) := by decide +kernel
theorem dX3_crashesInTick_37 : decode cX3_crashesInTick 37 = .ok (.putfield 32, 3) := by decide +kernel
theorem dX3_crashesInTick_40 : decode cX3_crashesInTick 40 = .ok (.aload_n 0, 1) := by decide +kernel
theorem dX3_crashesInTick_41 : decode cX3_crashesInTick 41 = .ok (.getfield 32, 3) := by decide +kernel
theorem dX3_crashesInTick_44 : decode cX3_crashesInTick 44 = .ok (.ifCond .ne 34, 3) := by decide +kernel
theorem dX3_crashesInTick_47 : decode cX3_crashesInTick 47 = .ok (.aload_n 0, 1) := by decide +kernel
theorem dX3_crashesInTick_48 : decode cX3_crashesInTick 48 = .ok (.getfield 18, 3) := by decide +kernel
theorem dX3_crashesInTick_51 : decode cX3_crashesInTick 51 = .ok (.iconst 0, 1) := by decide +kernel
theorem dX3_crashesInTick_52 : decode cX3_crashesInTick 52 = .ok (.iaload, 1) := by decide +kernel
theorem dX3_crashesInTick_53 : decode cX3_crashesInTick 53 = .ok (.iload_n 1, 1) := by decide +kernel
theorem dX3_crashesInTick_54 : decode cX3_crashesInTick 54 = .ok (.aload_n 0, 1) := by decide +kernel
theorem dX3_crashesInTick_55 : decode cX3_crashesInTick 55 = .ok (.getfield 18, 3) := by decide +kernel
theorem dX3_crashesInTick_58 : decode cX3_crashesInTick 58 = .ok (.iconst 2, 1) := by decide +kernel
theorem dX3_crashesInTick_59 : decode cX3_crashesInTick 59 = .ok (.iaload, 1) := by decide +kernel
theorem dX3_crashesInTick_60 : decode cX3_crashesInTick 60 = .ok (.isub, 1) := by decide +kernel
theorem dX3_crashesInTick_61 : decode cX3_crashesInTick 61 = .ok (.invokestatic 86, 3) := by decide +kernel
theorem dX3_crashesInTick_64 : decode cX3_crashesInTick 64 = .ok (.ifCond .eq 14, 3) := by decide +kernel
theorem dX3_crashesInTick_67 : decode cX3_crashesInTick 67 = .ok (.aload_n 0, 1) := by decide +kernel
theorem dX3_crashesInTick_68 : decode cX3_crashesInTick 68 = .ok (.iload_n 1, 1) := by decide +kernel
theorem dX3_crashesInTick_69 : decode cX3_crashesInTick 69 = .ok (.iload_n 2, 1) := by decide +kernel
theorem dX3_crashesInTick_70 : decode cX3_crashesInTick 70 = .ok (.invokevirtual 90, 3) := by decide +kernel
theorem dX3_crashesInTick_73 : decode cX3_crashesInTick 73 = .ok (.ifCond .eq 5, 3) := by decide +kernel
theorem dX3_crashesInTick_76 : decode cX3_crashesInTick 76 = .ok (.iconst 1, 1) := by decide +kernel
theorem dX3_crashesInTick_77 : decode cX3_crashesInTick 77 = .ok (.ireturn, 1) := by decide +kernel
theorem dX3_crashesInTick_78 : decode cX3_crashesInTick 78 = .ok (.aload_n 0, 1) := by decide +kernel
theorem dX3_crashesInTick_79 : decode cX3_crashesInTick 79 = .ok (.getfield 32, 3) := by decide +kernel
theorem dX3_crashesInTick_82 : decode cX3_crashesInTick 82 = .ok (.ifCond .eq 34, 3) := by decide +kernel
theorem dX3_crashesInTick_85 : decode cX3_crashesInTick 85 = .ok (.aload_n 0, 1) := by decide +kernel
theorem dX3_crashesInTick_86 : decode cX3_crashesInTick 86 = .ok (.getfield 18, 3) := by decide +kernel
theorem dX3_crashesInTick_89 : decode cX3_crashesInTick 89 = .ok (.bipush 7, 2) := by decide +kernel
theorem dX3_crashesInTick_91 : decode cX3_crashesInTick 91 = .ok (.iaload, 1) := by decide +kernel
theorem dX3_crashesInTick_92 : decode cX3_crashesInTick 92 = .ok (.ifCond .eq 24, 3) := by decide +kernel
theorem dX3_crashesInTick_95 : decode cX3_crashesInTick 95 = .ok (.iload_n 1, 1) := by decide +kernel
theorem dX3_crashesInTick_96 : decode cX3_crashesInTick 96 = .ok (.aload_n 0, 1) := by decide +kernel
theorem dX3_crashesInTick_97 : decode cX3_crashesInTick 97 = .ok (.getfield 39, 3) := by decide +kernel
theorem dX3_crashesInTick_100 : decode cX3_crashesInTick 100 = .ok (.isub, 1) := by decide +kernel
theorem dX3_crashesInTick_101 : decode cX3_crashesInTick 101 = .ok (.aload_n 0, 1) := by decide +kernel
theorem dX3_crashesInTick_102 : decode cX3_crashesInTick 102 = .ok (.getfield 18, 3) := by decide +kernel
theorem dX3_crashesInTick_105 : decode cX3_crashesInTick 105 = .ok (.bipush 7, 2) := by decide +kernel
theorem dX3_crashesInTick_107 : decode cX3_crashesInTick 107 = .ok (.iaload, 1) := by decide +kernel
theorem dX3_crashesInTick_108 : decode cX3_crashesInTick 108 = .ok (.if_icmp .le 8, 3) := by decide +kernel
theorem dX3_crashesInTick_111 : decode cX3_crashesInTick 111 = .ok (.aload_n 0, 1) := by decide +kernel
theorem dX3_crashesInTick_112 : decode cX3_crashesInTick 112 = .ok (.iconst 1, 1) := by decide +kernel
theorem dX3_crashesInTick_113 : decode cX3_crashesInTick 113 = .ok (.putfield 52, 3) := by decide +kernel
theorem dX3_crashesInTick_116 : decode cX3_crashesInTick 116 = .ok (.iconst 0, 1) := by decide +kernel
theorem dX3_crashesInTick_117 : decode cX3_crashesInTick 117 = .ok (.ireturn, 1) := by decide +kernel
theorem dX3_crashesAtBegin_0 : decode cX3_crashesAtBegin 0 = .ok (.iconst 0, 1) := by decide +kernel
theorem dX3_crashesAtBegin_1 : decode cX3_crashesAtBegin 1 = .ok (.istore_n 3, 1) := by decide +kernel
theorem dX3_crashesAtBegin_2 : decode cX3_crashesAtBegin 2 = .ok (.iconst 0, 1) := by decide +kernel
theorem dX3_crashesAtBegin_3 : decode cX3_crashesAtBegin 3 = .ok (.istore 4, 2) := by decide +kernel
theorem dX3_crashesAtBegin_5 : decode cX3_crashesAtBegin 5 = .ok (.iload_n 2, 1) := by decide +kernel
theorem dX3_crashesAtBegin_6 : decode cX3_crashesAtBegin 6 = .ok (.ifCond .lt 33, 3) := by decide +kernel
theorem dX3_crashesAtBegin_9 : decode cX3_crashesAtBegin 9 = .ok (.iload_n 2, 1) := by decide +kernel
theorem dX3_crashesAtBegin_10 : decode cX3_crashesAtBegin 10 = .ok (.iconst 2, 1) := by decide +kernel
theorem dX3_crashesAtBegin_11 : decode cX3_crashesAtBegin 11 = .ok (.if_icmp .ge 28, 3) := by decide +kernel
theorem dX3_crashesAtBegin_14 : decode cX3_crashesAtBegin 14 = .ok (.iload_n 1, 1) := by decide +kernel
theorem dX3_crashesAtBegin_15 : decode cX3_crashesAtBegin 15 = .ok (.aload_n 0, 1) := by decide +kernel
theorem dX3_crashesAtBegin_16 : decode cX3_crashesAtBegin 16 = .ok (.getfield 26, 3) := by decide +kernel
theorem dX3_crashesAtBegin_19 : decode cX3_crashesAtBegin 19 = .ok (.iload_n 2, 1) := by decide +kernel
theorem dX3_crashesAtBegin_20 : decode cX3_crashesAtBegin 20 = .ok (.iaload, 1) := by decide +kernel
theorem dX3_crashesAtBegin_21 : decode cX3_crashesAtBegin 21 = .ok (.if_icmp .lt 18, 3) := by decide +kernel
theorem dX3_crashesAtBegin_24 : decode cX3_crashesAtBegin 24 = .ok (.aload_n 0, 1) := by decide +kernel
theorem dX3_crashesAtBegin_25 : decode cX3_crashesAtBegin 25 = .ok (.getfield 23, 3) := by decide +kernel
theorem dX3_crashesAtBegin_28 : decode cX3_crashesAtBegin 28 = .ok (.iload_n 2, 1) := by decide +kernel
theorem dX3_crashesAtBegin_29 : decode cX3_crashesAtBegin 29 = .ok (.iaload, 1) := by decide +kernel
theorem dX3_crashesAtBegin_30 : decode cX3_crashesAtBegin 30 = .ok (.istore_n 3, 1) := by decide +kernel
theorem dX3_crashesAtBegin_31 : decode cX3_crashesAtBegin 31 = .ok (.aload_n 0, 1) := by decide +kernel
theorem dX3_crashesAtBegin_32 : decode cX3_crashesAtBegin 32 = .ok (.getfield 29, 3) := by decide +kernel
theorem dX3_crashesAtBegin_35 : decode cX3_crashesAtBegin 35 = .ok (.iload_n 2, 1) := by decide +kernel
theorem dX3_crashesAtBegin_36 : decode cX3_crashesAtBegin 36 = .ok (.iaload, 1) := by decide +kernel
theorem dX3_crashesAtBegin_37 : decode cX3_crashesAtBegin 37 = .ok (.istore 4, 2) := by decide +kernel
theorem dX3_crashesAtBegin_39 : decode cX3_crashesAtBegin 39 = .ok (.aload_n 0, 1) := by decide +kernel
theorem dX3_crashesAtBegin_40 : decode cX3_crashesAtBegin 40 = .ok (.iconst 1, 1) := by decide +kernel
theorem dX3_crashesAtBegin_41 : decode cX3_crashesAtBegin 41 = .ok (.putfield 32, 3) := by decide +kernel
theorem dX3_crashesAtBegin_44 : decode cX3_crashesAtBegin 44 = .ok (.aload_n 0, 1) := by decide +kernel
theorem dX3_crashesAtBegin_45 : decode cX3_crashesAtBegin 45 = .ok (.iload_n 3, 1) := by decide +kernel
theorem dX3_crashesAtBegin_46 : decode cX3_crashesAtBegin 46 = .ok (.iconst 1, 1) := by decide +kernel
theorem dX3_crashesAtBegin_47 : decode cX3_crashesAtBegin 47 = .ok (.if_icmp .ne 7, 3) := by decide +kernel
theorem dX3_crashesAtBegin_50 : decode cX3_crashesAtBegin 50 = .ok (.iconst 1, 1) := by decide +kernel
theorem dX3_crashesAtBegin_51 : decode cX3_crashesAtBegin 51 = .ok (.goto 4, 3) := by decide +kernel
theorem dX3_crashesAtBegin_54 : decode cX3_crashesAtBegin 54 = .ok (.iconst 0, 1) := by decide +kernel
theorem dX3_crashesAtBegin_55 : decode cX3_crashesAtBegin 55 = .ok (.putfield 36, 3) := by decide +kernel
theorem dX3_crashesAtBegin_58 : decode cX3_crashesAtBegin 58 = .ok (.aload_n 0, 1) := by decide +kernel
theorem dX3_crashesAtBegin_59 : decode cX3_crashesAtBegin 59 = .ok (.iload_n 1, 1) := by decide +kernel
theorem dX3_crashesAtBegin_60 : decode cX3_crashesAtBegin 60 = .ok (.putfield 39, 3) := by decide +kernel
theorem dX3_crashesAtBegin_63 : decode cX3_crashesAtBegin 63 = .ok (.aload_n 0, 1) := by decide +kernel
theorem dX3_crashesAtBegin_64 : decode cX3_crashesAtBegin 64 = .ok (.aload_n 0, 1) := by decide +kernel
theorem dX3_crashesAtBegin_65 : decode cX3_crashesAtBegin 65 = .ok (.getfield 18, 3) := by decide +kernel
theorem dX3_crashesAtBegin_68 : decode cX3_crashesAtBegin 68 = .ok (.iconst 1, 1) := by decide +kernel
theorem dX3_crashesAtBegin_69 : decode cX3_crashesAtBegin 69 = .ok (.iaload, 1) := by decide +kernel
theorem dX3_crashesAtBegin_70 : decode cX3_crashesAtBegin 70 = .ok (.iload_n 3, 1) := by decide +kernel
theorem dX3_crashesAtBegin_71 : decode cX3_crashesAtBegin 71 = .ok (.iconst 2, 1) := by decide +kernel
theorem dX3_crashesAtBegin_72 : decode cX3_crashesAtBegin 72 = .ok (.if_icmp .ne 8, 3) := by decide +kernel
theorem dX3_crashesAtBegin_75 : decode cX3_crashesAtBegin 75 = .ok (.iload 4, 2) := by decide +kernel
theorem dX3_crashesAtBegin_77 : decode cX3_crashesAtBegin 77 = .ok (.goto 4, 3) := by decide +kernel
theorem dX3_crashesAtBegin_80 : decode cX3_crashesAtBegin 80 = .ok (.iconst 0, 1) := by decide +kernel
theorem dX3_crashesAtBegin_81 : decode cX3_crashesAtBegin 81 = .ok (.iadd, 1) := by decide +kernel
theorem dX3_crashesAtBegin_82 : decode cX3_crashesAtBegin 82 = .ok (.putfield 43, 3) := by decide +kernel
theorem dX3_crashesAtBegin_85 : decode cX3_crashesAtBegin 85 = .ok (.iload_n 3, 1) := by decide +kernel
theorem dX3_crashesAtBegin_86 : decode cX3_crashesAtBegin 86 = .ok (.iconst 3, 1) := by decide +kernel
theorem dX3_crashesAtBegin_87 : decode cX3_crashesAtBegin 87 = .ok (.if_icmp .eq 22, 3) := by decide +kernel
theorem dX3_crashesAtBegin_90 : decode cX3_crashesAtBegin 90 = .ok (.aload_n 0, 1) := by decide +kernel
theorem dX3_crashesAtBegin_91 : decode cX3_crashesAtBegin 91 = .ok (.dup, 1) := by decide +kernel
theorem dX3_crashesAtBegin_92 : decode cX3_crashesAtBegin 92 = .ok (.getfield 46, 3) := by decide +kernel
theorem dX3_crashesAtBegin_95 : decode cX3_crashesAtBegin 95 = .ok (.iload_n 3, 1) := by decide +kernel
theorem dX3_crashesAtBegin_96 : decode cX3_crashesAtBegin 96 = .ok (.iconst 4, 1) := by decide +kernel
theorem dX3_crashesAtBegin_97 : decode cX3_crashesAtBegin 97 = .ok (.if_icmp .ne 7, 3) := by decide +kernel
theorem dX3_crashesAtBegin_100 : decode cX3_crashesAtBegin 100 = .ok (.iconst 2, 1) := by decide +kernel
theorem dX3_crashesAtBegin_101 : decode cX3_crashesAtBegin 101 = .ok (.goto 4, 3) := by decide +kernel
theorem dX3_crashesAtBegin_104 : decode cX3_crashesAtBegin 104 = .ok (.iconst 1, 1) := by decide +kernel
theorem dX3_crashesAtBegin_105 : decode cX3_crashesAtBegin 105 = .ok (.iadd, 1) := by decide +kernel
theorem dX3_crashesAtBegin_106 : decode cX3_crashesAtBegin 106 = .ok (.putfield 46, 3) := by decide +kernel
theorem dX3_crashesAtBegin_109 : decode cX3_crashesAtBegin 109 = .ok (.iload_n 3, 1) := by decide +kernel
theorem dX3_crashesAtBegin_110 : decode cX3_crashesAtBegin 110 = .ok (.iconst 5, 1) := by decide +kernel
theorem dX3_crashesAtBegin_111 : decode cX3_crashesAtBegin 111 = .ok (.if_icmp .ne 7, 3) := by decide +kernel
theorem dX3_crashesAtBegin_114 : decode cX3_crashesAtBegin 114 = .ok (.iconst 1, 1) := by decide +kernel
theorem dX3_crashesAtBegin_115 : decode cX3_crashesAtBegin 115 = .ok (.goto 4, 3) := by decide +kernel
theorem dX3_crashesAtBegin_118 : decode cX3_crashesAtBegin 118 = .ok (.iconst 0, 1) := by decide +kernel
theorem dX3_crashesAtBegin_119 : decode cX3_crashesAtBegin 119 = .ok (.ireturn, 1) := by decide +kernel
theorem dX3_endCycle_0 : decode cX3_endCycle 0 = .ok (.aload_n 0, 1) := by decide +kernel
theorem dX3_endCycle_1 : decode cX3_endCycle 1 = .ok (.getfield 46, 3) := by decide +kernel
theorem dX3_endCycle_4 : decode cX3_endCycle 4 = .ok (.aload_n 0, 1) := by decide +kernel
theorem dX3_endCycle_5 : decode cX3_endCycle 5 = .ok (.getfield 18, 3) := by decide +kernel
theorem dX3_endCycle_8 : decode cX3_endCycle 8 = .ok (.iconst 4, 1) := by decide +kernel
theorem dX3_endCycle_9 : decode cX3_endCycle 9 = .ok (.iaload, 1) := by decide +kernel
theorem dX3_endCycle_10 : decode cX3_endCycle 10 = .ok (.aload_n 0, 1) := by decide +kernel
theorem dX3_endCycle_11 : decode cX3_endCycle 11 = .ok (.getfield 18, 3) := by decide +kernel
theorem dX3_endCycle_14 : decode cX3_endCycle 14 = .ok (.iconst 5, 1) := by decide +kernel
theorem dX3_endCycle_15 : decode cX3_endCycle 15 = .ok (.iaload, 1) := by decide +kernel
theorem dX3_endCycle_16 : decode cX3_endCycle 16 = .ok (.invokestatic 93, 3) := by decide +kernel
theorem dX3_endCycle_19 : decode cX3_endCycle 19 = .ok (.ifCond .eq 14, 3) := by decide +kernel
theorem dX3_endCycle_22 : decode cX3_endCycle 22 = .ok (.aload_n 0, 1) := by decide +kernel
theorem dX3_endCycle_23 : decode cX3_endCycle 23 = .ok (.getfield 52, 3) := by decide +kernel
theorem dX3_endCycle_26 : decode cX3_endCycle 26 = .ok (.ifCond .ne 7, 3) := by decide +kernel
theorem dX3_endCycle_29 : decode cX3_endCycle 29 = .ok (.iconst 1, 1) := by decide +kernel
theorem dX3_endCycle_30 : decode cX3_endCycle 30 = .ok (.goto 4, 3) := by decide +kernel
theorem dX3_endCycle_33 : decode cX3_endCycle 33 = .ok (.iconst 0, 1) := by decide +kernel
theorem dX3_endCycle_34 : decode cX3_endCycle 34 = .ok (.istore_n 2, 1) := by decide +kernel
theorem dX3_endCycle_35 : decode cX3_endCycle 35 = .ok (.iload_n 2, 1) := by decide +kernel
theorem dX3_endCycle_36 : decode cX3_endCycle 36 = .ok (.ifCond .eq 20, 3) := by decide +kernel
theorem dX3_endCycle_39 : decode cX3_endCycle 39 = .ok (.aload_n 0, 1) := by decide +kernel
theorem dX3_endCycle_40 : decode cX3_endCycle 40 = .ok (.iconst 0, 1) := by decide +kernel
theorem dX3_endCycle_41 : decode cX3_endCycle 41 = .ok (.aload_n 0, 1) := by decide +kernel
theorem dX3_endCycle_42 : decode cX3_endCycle 42 = .ok (.getfield 49, 3) := by decide +kernel
theorem dX3_endCycle_45 : decode cX3_endCycle 45 = .ok (.iconst 1, 1) := by decide +kernel
theorem dX3_endCycle_46 : decode cX3_endCycle 46 = .ok (.isub, 1) := by decide +kernel
theorem dX3_endCycle_47 : decode cX3_endCycle 47 = .ok (.invokestatic 97, 3) := by decide +kernel
theorem dX3_endCycle_50 : decode cX3_endCycle 50 = .ok (.putfield 49, 3) := by decide +kernel
theorem dX3_endCycle_53 : decode cX3_endCycle 53 = .ok (.goto 70, 3) := by decide +kernel
theorem dX3_endCycle_56 : decode cX3_endCycle 56 = .ok (.aload_n 0, 1) := by decide +kernel
theorem dX3_endCycle_57 : decode cX3_endCycle 57 = .ok (.dup, 1) := by decide +kernel
theorem dX3_endCycle_58 : decode cX3_endCycle 58 = .ok (.getfield 49, 3) := by decide +kernel
theorem dX3_endCycle_61 : decode cX3_endCycle 61 = .ok (.iconst 1, 1) := by decide +kernel
theorem dX3_endCycle_62 : decode cX3_endCycle 62 = .ok (.iadd, 1) := by decide +kernel
theorem dX3_endCycle_63 : decode cX3_endCycle 63 = .ok (.putfield 49, 3) := by decide +kernel
theorem dX3_endCycle_66 : decode cX3_endCycle 66 = .ok (.aload_n 0, 1) := by decide +kernel
theorem dX3_endCycle_67 : decode cX3_endCycle 67 = .ok (.aload_n 0, 1) := by decide +kernel
theorem dX3_endCycle_68 : decode cX3_endCycle 68 = .ok (.getfield 49, 3) := by decide +kernel
theorem dX3_endCycle_71 : decode cX3_endCycle 71 = .ok (.aload_n 0, 1) := by decide +kernel
theorem dX3_endCycle_72 : decode cX3_endCycle 72 = .ok (.getfield 18, 3) := by decide +kernel
theorem dX3_endCycle_75 : decode cX3_endCycle 75 = .ok (.bipush 6, 2) := by decide +kernel
theorem dX3_endCycle_77 : decode cX3_endCycle 77 = .ok (.iaload, 1) := by decide +kernel
theorem dX3_endCycle_78 : decode cX3_endCycle 78 = .ok (.if_icmp .le 7, 3) := by decide +kernel
theorem dX3_endCycle_81 : decode cX3_endCycle 81 = .ok (.iconst 1, 1) := by decide +kernel
theorem dX3_endCycle_82 : decode cX3_endCycle 82 = .ok (.goto 4, 3) := by decide +kernel
theorem dX3_endCycle_85 : decode cX3_endCycle 85 = .ok (.iconst 0, 1) := by decide +kernel
theorem dX3_endCycle_86 : decode cX3_endCycle 86 = .ok (.putfield 55, 3) := by decide +kernel
theorem dX3_endCycle_89 : decode cX3_endCycle 89 = .ok (.aload_n 0, 1) := by decide +kernel
theorem dX3_endCycle_90 : decode cX3_endCycle 90 = .ok (.dup, 1) := by decide +kernel
theorem dX3_endCycle_91 : decode cX3_endCycle 91 = .ok (.getfield 58, 3) := by decide +kernel
theorem dX3_endCycle_94 : decode cX3_endCycle 94 = .ok (.iconst 1, 1) := by decide +kernel
theorem dX3_endCycle_95 : decode cX3_endCycle 95 = .ok (.iadd, 1) := by decide +kernel
theorem dX3_endCycle_96 : decode cX3_endCycle 96 = .ok (.putfield 58, 3) := by decide +kernel
theorem dX3_endCycle_99 : decode cX3_endCycle 99 = .ok (.aload_n 0, 1) := by decide +kernel
theorem dX3_endCycle_100 : decode cX3_endCycle 100 = .ok (.aload_n 0, 1) := by decide +kernel
theorem dX3_endCycle_101 : decode cX3_endCycle 101 = .ok (.getfield 61, 3) := by decide +kernel
theorem dX3_endCycle_104 : decode cX3_endCycle 104 = .ok (.ifCond .eq 10, 3) := by decide +kernel
theorem dX3_endCycle_107 : decode cX3_endCycle 107 = .ok (.aload_n 0, 1) := by decide +kernel
theorem dX3_endCycle_108 : decode cX3_endCycle 108 = .ok (.getfield 64, 3) := by decide +kernel
theorem dX3_endCycle_111 : decode cX3_endCycle 111 = .ok (.goto 4, 3) := by decide +kernel
theorem dX3_endCycle_114 : decode cX3_endCycle 114 = .ok (.iload_n 1, 1) := by decide +kernel
theorem dX3_endCycle_115 : decode cX3_endCycle 115 = .ok (.putfield 64, 3) := by decide +kernel
theorem dX3_endCycle_118 : decode cX3_endCycle 118 = .ok (.aload_n 0, 1) := by decide +kernel
theorem dX3_endCycle_119 : decode cX3_endCycle 119 = .ok (.iconst 1, 1) := by decide +kernel
theorem dX3_endCycle_120 : decode cX3_endCycle 120 = .ok (.putfield 61, 3) := by decide +kernel
theorem dX3_endCycle_123 : decode cX3_endCycle 123 = .ok (.aload_n 0, 1) := by decide +kernel
theorem dX3_endCycle_124 : decode cX3_endCycle 124 = .ok (.iconst 0, 1) := by decide +kernel
theorem dX3_endCycle_125 : decode cX3_endCycle 125 = .ok (.putfield 46, 3) := by decide +kernel
theorem dX3_endCycle_128 : decode cX3_endCycle 128 = .ok (.aload_n 0, 1) := by decide +kernel
theorem dX3_endCycle_129 : decode cX3_endCycle 129 = .ok (.iconst 0, 1) := by decide +kernel
theorem dX3_endCycle_130 : decode cX3_endCycle 130 = .ok (.putfield 52, 3) := by decide +kernel
theorem dX3_endCycle_133 : decode cX3_endCycle 133 = .ok (.return_, 1) := by decide +kernel
theorem dX4_init_0 : decode cX4_init 0 = .ok (.aload_n 0, 1) := by decide +kernel
theorem dX4_init_1 : decode cX4_init 1 = .ok (.invokespecial 1, 3) := by decide +kernel
theorem dX4_init_4 : decode cX4_init 4 = .ok (.aload_n 0, 1) := by decide +kernel
theorem dX4_init_5 : decode cX4_init 5 = .ok (.new 7, 3) := by decide +kernel
theorem dX4_init_8 : decode cX4_init 8 = .ok (.dup, 1) := by decide +kernel
theorem dX4_init_9 : decode cX4_init 9 = .ok (.invokespecial 9, 3) := by decide +kernel
theorem dX4_init_12 : decode cX4_init 12 = .ok (.putfield 10, 3) := by decide +kernel
theorem dX4_init_15 : decode cX4_init 15 = .ok (.aload_n 0, 1) := by decide +kernel
theorem dX4_init_16 : decode cX4_init 16 = .ok (.new 7, 3) := by decide +kernel
theorem dX4_init_19 : decode cX4_init 19 = .ok (.dup, 1) := by decide +kernel
theorem dX4_init_20 : decode cX4_init 20 = .ok (.invokespecial 9, 3) := by decide +kernel
theorem dX4_init_23 : decode cX4_init 23 = .ok (.putfield 16, 3) := by decide +kernel
theorem dX4_init_26 : decode cX4_init 26 = .ok (.aload_n 0, 1) := by decide +kernel
theorem dX4_init_27 : decode cX4_init 27 = .ok (.iconst 2, 1) := by decide +kernel
theorem dX4_init_28 : decode cX4_init 28 = .ok (.anewarray 7, 3) := by decide +kernel
theorem dX4_init_31 : decode cX4_init 31 = .ok (.putfield 19, 3) := by decide +kernel
theorem dX4_init_34 : decode cX4_init 34 = .ok (.iconst 0, 1) := by decide +kernel
theorem dX4_init_35 : decode cX4_init 35 = .ok (.istore_n 1, 1) := by decide +kernel
theorem dX4_init_36 : decode cX4_init 36 = .ok (.iload_n 1, 1) := by decide +kernel
theorem dX4_init_37 : decode cX4_init 37 = .ok (.iconst 2, 1) := by decide +kernel
theorem dX4_init_38 : decode cX4_init 38 = .ok (.if_icmp .ge 22, 3) := by decide +kernel
theorem dX4_init_41 : decode cX4_init 41 = .ok (.aload_n 0, 1) := by decide +kernel
theorem dX4_init_42 : decode cX4_init 42 = .ok (.getfield 19, 3) := by decide +kernel
theorem dX4_init_45 : decode cX4_init 45 = .ok (.iload_n 1, 1) := by decide +kernel
theorem dX4_init_46 : decode cX4_init 46 = .ok (.new 7, 3) := by decide +kernel
theorem dX4_init_49 : decode cX4_init 49 = .ok (.dup, 1) := by decide +kernel
theorem dX4_init_50 : decode cX4_init 50 = .ok (.invokespecial 9, 3) := by decide +kernel
theorem dX4_init_53 : decode cX4_init 53 = .ok (.aastore, 1) := by decide +kernel
theorem dX4_init_54 : decode cX4_init 54 = .ok (.iinc 1 1, 3) := by decide +kernel
theorem dX4_init_57 : decode cX4_init 57 = .ok (.goto (-21), 3) := by decide +kernel
theorem dX4_init_60 : decode cX4_init 60 = .ok (.aload_n 0, 1) := by decide +kernel
theorem dX4_init_61 : decode cX4_init 61 = .ok (.iconst 2, 1) := by decide +kernel
theorem dX4_init_62 : decode cX4_init 62 = .ok (.newarray .boolean, 2) := by decide +kernel
theorem dX4_init_64 : decode cX4_init 64 = .ok (.putfield 23, 3) := by decide +kernel
theorem dX4_init_67 : decode cX4_init 67 = .ok (.aload_n 0, 1) := by decide +kernel
theorem dX4_init_68 : decode cX4_init 68 = .ok (.new 27, 3) := by decide +kernel
theorem dX4_init_71 : decode cX4_init 71 = .ok (.dup, 1) := by decide +kernel
theorem dX4_init_72 : decode cX4_init 72 = .ok (.invokespecial 29, 3) := by decide +kernel
theorem dX4_init_75 : decode cX4_init 75 = .ok (.putfield 30, 3) := by decide +kernel
theorem dX4_init_78 : decode cX4_init 78 = .ok (.return_, 1) := by decide +kernel
theorem dX4_rule_0 : decode cX4_rule 0 = .ok (.iload_n 1, 1) := by decide +kernel
theorem dX4_rule_1 : decode cX4_rule 1 = .ok (.iload_n 2, 1) := by decide +kernel
theorem dX4_rule_2 : decode cX4_rule 2 = .ok (.getstatic 34, 3) := by decide +kernel
theorem dX4_rule_5 : decode cX4_rule 5 = .ok (.getstatic 38, 3) := by decide +kernel
theorem dX4_rule_8 : decode cX4_rule 8 = .ok (.invokestatic 41, 3) := by decide +kernel
theorem dX4_rule_11 : decode cX4_rule 11 = .ok (.ifCond .ne 6, 3) := by decide +kernel
theorem dX4_rule_14 : decode cX4_rule 14 = .ok (.bipush (-2), 2) := by decide +kernel
theorem dX4_rule_16 : decode cX4_rule 16 = .ok (.ireturn, 1) := by decide +kernel
theorem dX4_rule_17 : decode cX4_rule 17 = .ok (.aload_n 0, 1) := by decide +kernel
theorem dX4_rule_18 : decode cX4_rule 18 = .ok (.getfield 10, 3) := by decide +kernel
theorem dX4_rule_21 : decode cX4_rule 21 = .ok (.getfield 45, 3) := by decide +kernel
theorem dX4_rule_24 : decode cX4_rule 24 = .ok (.iload_n 1, 1) := by decide +kernel
theorem dX4_rule_25 : decode cX4_rule 25 = .ok (.iaload, 1) := by decide +kernel
theorem dX4_rule_26 : decode cX4_rule 26 = .ok (.istore_n 3, 1) := by decide +kernel
theorem dX4_rule_27 : decode cX4_rule 27 = .ok (.aload_n 0, 1) := by decide +kernel
theorem dX4_rule_28 : decode cX4_rule 28 = .ok (.getfield 10, 3) := by decide +kernel
theorem dX4_rule_31 : decode cX4_rule 31 = .ok (.getfield 45, 3) := by decide +kernel
theorem dX4_rule_34 : decode cX4_rule 34 = .ok (.iload_n 1, 1) := by decide +kernel
theorem dX4_rule_35 : decode cX4_rule 35 = .ok (.iload_n 2, 1) := by decide +kernel
theorem dX4_rule_36 : decode cX4_rule 36 = .ok (.iastore, 1) := by decide +kernel
theorem dX4_rule_37 : decode cX4_rule 37 = .ok (.iload_n 3, 1) := by decide +kernel
theorem dX4_rule_38 : decode cX4_rule 38 = .ok (.ireturn, 1) := by decide +kernel
theorem dX4_addTask_0 : decode cX4_addTask 0 = .ok (.iconst 0, 1) := by decide +kernel
theorem dX4_addTask_1 : decode cX4_addTask 1 = .ok (.iload_n 1, 1) := by decide +kernel
theorem dX4_addTask_2 : decode cX4_addTask 2 = .ok (.getstatic 48, 3) := by decide +kernel
theorem dX4_addTask_5 : decode cX4_addTask 5 = .ok (.getstatic 51, 3) := by decide +kernel
theorem dX4_addTask_8 : decode cX4_addTask 8 = .ok (.invokestatic 41, 3) := by decide +kernel
theorem dX4_addTask_11 : decode cX4_addTask 11 = .ok (.ifCond .eq 17, 3) := by decide +kernel
theorem dX4_addTask_14 : decode cX4_addTask 14 = .ok (.iconst 1, 1) := by decide +kernel
theorem dX4_addTask_15 : decode cX4_addTask 15 = .ok (.iload_n 2, 1) := by decide +kernel
theorem dX4_addTask_16 : decode cX4_addTask 16 = .ok (.getstatic 48, 3) := by decide +kernel
theorem dX4_addTask_19 : decode cX4_addTask 19 = .ok (.getstatic 51, 3) := by decide +kernel
theorem dX4_addTask_22 : decode cX4_addTask 22 = .ok (.invokestatic 41, 3) := by decide +kernel
theorem dX4_addTask_25 : decode cX4_addTask 25 = .ok (.ifCond .ne 6, 3) := by decide +kernel
theorem dX4_addTask_28 : decode cX4_addTask 28 = .ok (.bipush (-2), 2) := by decide +kernel
theorem dX4_addTask_30 : decode cX4_addTask 30 = .ok (.ireturn, 1) := by decide +kernel
theorem dX4_addTask_31 : decode cX4_addTask 31 = .ok (.aload_n 0, 1) := by decide +kernel
theorem dX4_addTask_32 : decode cX4_addTask 32 = .ok (.getfield 10, 3) := by decide +kernel
theorem dX4_addTask_35 : decode cX4_addTask 35 = .ok (.getfield 54, 3) := by decide +kernel
theorem dX4_addTask_38 : decode cX4_addTask 38 = .ok (.bipush 6, 2) := by decide +kernel
theorem dX4_addTask_40 : decode cX4_addTask 40 = .ok (.if_icmp .lt 6, 3) := by decide +kernel
theorem dX4_addTask_43 : decode cX4_addTask 43 = .ok (.bipush (-4), 2) := by decide +kernel
theorem dX4_addTask_45 : decode cX4_addTask 45 = .ok (.ireturn, 1) := by decide +kernel
theorem dX4_addTask_46 : decode cX4_addTask 46 = .ok (.aload_n 0, 1) := by decide +kernel
theorem dX4_addTask_47 : decode cX4_addTask 47 = .ok (.getfield 10, 3) := by decide +kernel
theorem dX4_addTask_50 : decode cX4_addTask 50 = .ok (.getfield 54, 3) := by decide +kernel
theorem dX4_addTask_53 : decode cX4_addTask 53 = .ok (.istore_n 3, 1) := by decide +kernel
theorem dX4_addTask_54 : decode cX4_addTask 54 = .ok (.aload_n 0, 1) := by decide +kernel
theorem dX4_addTask_55 : decode cX4_addTask 55 = .ok (.getfield 10, 3) := by decide +kernel
theorem dX4_addTask_58 : decode cX4_addTask 58 = .ok (.getfield 58, 3) := by decide +kernel
theorem dX4_addTask_61 : decode cX4_addTask 61 = .ok (.iload_n 3, 1) := by decide +kernel
theorem dX4_addTask_62 : decode cX4_addTask 62 = .ok (.aaload, 1) := by decide +kernel
theorem dX4_addTask_63 : decode cX4_addTask 63 = .ok (.iload_n 1, 1) := by decide +kernel
theorem dX4_addTask_64 : decode cX4_addTask 64 = .ok (.iload_n 2, 1) := by decide +kernel
theorem dX4_addTask_65 : decode cX4_addTask 65 = .ok (.invokevirtual 62, 3) := by decide +kernel
theorem dX4_addTask_68 : decode cX4_addTask 68 = .ok (.aload_n 0, 1) := by decide +kernel
theorem dX4_addTask_69 : decode cX4_addTask 69 = .ok (.getfield 10, 3) := by decide +kernel
theorem dX4_addTask_72 : decode cX4_addTask 72 = .ok (.dup, 1) := by decide +kernel
theorem dX4_addTask_73 : decode cX4_addTask 73 = .ok (.getfield 54, 3) := by decide +kernel
theorem dX4_addTask_76 : decode cX4_addTask 76 = .ok (.iconst 1, 1) := by decide +kernel
theorem dX4_addTask_77 : decode cX4_addTask 77 = .ok (.iadd, 1) := by decide +kernel
theorem dX4_addTask_78 : decode cX4_addTask 78 = .ok (.putfield 54, 3) := by decide +kernel
theorem dX4_addTask_81 : decode cX4_addTask 81 = .ok (.iload_n 3, 1) := by decide +kernel
theorem dX4_addTask_82 : decode cX4_addTask 82 = .ok (.ireturn, 1) := by decide +kernel
theorem dX4_set_0 : decode cX4_set 0 = .ok (.aload_n 0, 1) := by decide +kernel
theorem dX4_set_1 : decode cX4_set 1 = .ok (.iload_n 1, 1) := by decide +kernel
theorem dX4_set_2 : decode cX4_set 2 = .ok (.invokevirtual 68, 3) := by decide +kernel
theorem dX4_set_5 : decode cX4_set 5 = .ok (.ifCond .ne 5, 3) := by decide +kernel
theorem dX4_set_8 : decode cX4_set 8 = .ok (.iconst (-1), 1) := by decide +kernel
theorem dX4_set_9 : decode cX4_set 9 = .ok (.ireturn, 1) := by decide +kernel
theorem dX4_set_10 : decode cX4_set 10 = .ok (.iload_n 2, 1) := by decide +kernel
theorem dX4_set_11 : decode cX4_set 11 = .ok (.iload_n 3, 1) := by decide +kernel
theorem dX4_set_12 : decode cX4_set 12 = .ok (.getstatic 48, 3) := by decide +kernel
theorem dX4_set_15 : decode cX4_set 15 = .ok (.getstatic 51, 3) := by decide +kernel
theorem dX4_set_18 : decode cX4_set 18 = .ok (.invokestatic 41, 3) := by decide +kernel
theorem dX4_set_21 : decode cX4_set 21 = .ok (.ifCond .ne 6, 3) := by decide +kernel
theorem dX4_set_24 : decode cX4_set 24 = .ok (.bipush (-2), 2) := by decide +kernel
theorem dX4_set_26 : decode cX4_set 26 = .ok (.ireturn, 1) := by decide +kernel
theorem dX4_set_27 : decode cX4_set 27 = .ok (.aload_n 0, 1) := by decide +kernel
theorem dX4_set_28 : decode cX4_set 28 = .ok (.getfield 10, 3) := by decide +kernel
theorem dX4_set_31 : decode cX4_set 31 = .ok (.getfield 58, 3) := by decide +kernel
theorem dX4_set_34 : decode cX4_set 34 = .ok (.iload_n 1, 1) := by decide +kernel
theorem dX4_set_35 : decode cX4_set 35 = .ok (.aaload, 1) := by decide +kernel
theorem dX4_set_36 : decode cX4_set 36 = .ok (.getfield 72, 3) := by decide +kernel
theorem dX4_set_39 : decode cX4_set 39 = .ok (.astore 4, 2) := by decide +kernel
theorem dX4_set_41 : decode cX4_set 41 = .ok (.aload 4, 2) := by decide +kernel
theorem dX4_set_43 : decode cX4_set 43 = .ok (.iload_n 2, 1) := by decide +kernel
theorem dX4_set_44 : decode cX4_set 44 = .ok (.iaload, 1) := by decide +kernel
theorem dX4_set_45 : decode cX4_set 45 = .ok (.istore 5, 2) := by decide +kernel
theorem dX4_set_47 : decode cX4_set 47 = .ok (.aload 4, 2) := by decide +kernel
theorem dX4_set_49 : decode cX4_set 49 = .ok (.iload_n 2, 1) := by decide +kernel
theorem dX4_set_50 : decode cX4_set 50 = .ok (.iload_n 3, 1) := by decide +kernel
theorem dX4_set_51 : decode cX4_set 51 = .ok (.iastore, 1) := by decide +kernel
theorem dX4_set_52 : decode cX4_set 52 = .ok (.iload 5, 2) := by decide +kernel
theorem dX4_set_54 : decode cX4_set 54 = .ok (.ireturn, 1) := by decide +kernel
theorem dX4_putFault_0 : decode cX4_putFault 0 = .ok (.iload_n 1, 1) := by decide +kernel
theorem dX4_putFault_1 : decode cX4_putFault 1 = .ok (.iconst 0, 1) := by decide +kernel
theorem dX4_putFault_2 : decode cX4_putFault 2 = .ok (.iconst 1, 1) := by decide +kernel
theorem dX4_putFault_3 : decode cX4_putFault 3 = .ok (.invokestatic 75, 3) := by decide +kernel
theorem dX4_putFault_6 : decode cX4_putFault 6 = .ok (.ifCond .eq 11, 3) := by decide +kernel
theorem dX4_putFault_9 : decode cX4_putFault 9 = .ok (.aload_n 0, 1) := by decide +kernel
theorem dX4_putFault_10 : decode cX4_putFault 10 = .ok (.iload_n 2, 1) := by decide +kernel
theorem dX4_putFault_11 : decode cX4_putFault 11 = .ok (.invokevirtual 68, 3) := by decide +kernel
theorem dX4_putFault_14 : decode cX4_putFault 14 = .ok (.ifCond .ne 5, 3) := by decide +kernel
theorem dX4_putFault_17 : decode cX4_putFault 17 = .ok (.iconst (-1), 1) := by decide +kernel
theorem dX4_putFault_18 : decode cX4_putFault 18 = .ok (.ireturn, 1) := by decide +kernel
theorem dX4_putFault_19 : decode cX4_putFault 19 = .ok (.iload_n 3, 1) := by decide +kernel
theorem dX4_putFault_20 : decode cX4_putFault 20 = .ok (.iconst 0, 1) := by decide +kernel
theorem dX4_putFault_21 : decode cX4_putFault 21 = .ok (.iconst 5, 1) := by decide +kernel
theorem dX4_putFault_22 : decode cX4_putFault 22 = .ok (.invokestatic 75, 3) := by decide +kernel
theorem dX4_putFault_25 : decode cX4_putFault 25 = .ok (.ifCond .eq 27, 3) := by decide +kernel
theorem dX4_putFault_28 : decode cX4_putFault 28 = .ok (.iload 4, 2) := by decide +kernel
theorem dX4_putFault_30 : decode cX4_putFault 30 = .ok (.iconst 0, 1) := by decide +kernel
theorem dX4_putFault_31 : decode cX4_putFault 31 = .ok (.sipush 5000, 3) := by decide +kernel
theorem dX4_putFault_34 : decode cX4_putFault 34 = .ok (.invokestatic 75, 3) := by decide +kernel
theorem dX4_putFault_37 : decode cX4_putFault 37 = .ok (.ifCond .eq 15, 3) := by decide +kernel
theorem dX4_putFault_40 : decode cX4_putFault 40 = .ok (.iload 5, 2) := by decide +kernel
theorem dX4_putFault_42 : decode cX4_putFault 42 = .ok (.iconst 0, 1) := by decide +kernel
theorem dX4_putFault_43 : decode cX4_putFault 43 = .ok (.sipush 500, 3) := by decide +kernel
theorem dX4_putFault_46 : decode cX4_putFault 46 = .ok (.invokestatic 75, 3) := by decide +kernel
theorem dX4_putFault_49 : decode cX4_putFault 49 = .ok (.ifCond .ne 6, 3) := by decide +kernel
theorem dX4_putFault_52 : decode cX4_putFault 52 = .ok (.bipush (-2), 2) := by decide +kernel
theorem dX4_putFault_54 : decode cX4_putFault 54 = .ok (.ireturn, 1) := by decide +kernel
theorem dX4_putFault_55 : decode cX4_putFault 55 = .ok (.aload_n 0, 1) := by decide +kernel
theorem dX4_putFault_56 : decode cX4_putFault 56 = .ok (.getfield 10, 3) := by decide +kernel
theorem dX4_putFault_59 : decode cX4_putFault 59 = .ok (.getfield 58, 3) := by decide +kernel
theorem dX4_putFault_62 : decode cX4_putFault 62 = .ok (.iload_n 2, 1) := by decide +kernel
theorem dX4_putFault_63 : decode cX4_putFault 63 = .ok (.aaload, 1) := by decide +kernel
theorem dX4_putFault_64 : decode cX4_putFault 64 = .ok (.getfield 79, 3) := by decide +kernel
theorem dX4_putFault_67 : decode cX4_putFault 67 = .ok (.iload_n 1, 1) := by decide +kernel
theorem dX4_putFault_68 : decode cX4_putFault 68 = .ok (.iaload, 1) := by decide +kernel
theorem dX4_putFault_69 : decode cX4_putFault 69 = .ok (.istore 6, 2) := by decide +kernel
theorem dX4_putFault_71 : decode cX4_putFault 71 = .ok (.aload_n 0, 1) := by decide +kernel
theorem dX4_putFault_72 : decode cX4_putFault 72 = .ok (.getfield 10, 3) := by decide +kernel
theorem dX4_putFault_75 : decode cX4_putFault 75 = .ok (.getfield 58, 3) := by decide +kernel
theorem dX4_putFault_78 : decode cX4_putFault 78 = .ok (.iload_n 2, 1) := by decide +kernel
theorem dX4_putFault_79 : decode cX4_putFault 79 = .ok (.aaload, 1) := by decide +kernel
theorem dX4_putFault_80 : decode cX4_putFault 80 = .ok (.iload_n 1, 1) := by decide +kernel
theorem dX4_putFault_81 : decode cX4_putFault 81 = .ok (.iload_n 3, 1) := by decide +kernel
theorem dX4_putFault_82 : decode cX4_putFault 82 = .ok (.iload 4, 2) := by decide +kernel
theorem dX4_putFault_84 : decode cX4_putFault 84 = .ok (.iload 5, 2) := by decide +kernel
theorem dX4_putFault_86 : decode cX4_putFault 86 = .ok (.invokevirtual 82, 3) := by decide +kernel
theorem dX4_putFault_89 : decode cX4_putFault 89 = .ok (.iload 6, 2) := by decide +kernel
theorem dX4_putFault_91 : decode cX4_putFault 91 = .ok (.ireturn, 1) := by decide +kernel
theorem dX4_run_0 : decode cX4_run 0 = .ok (.iload_n 1, 1) := by decide +kernel
theorem dX4_run_1 : decode cX4_run 1 = .ok (.iconst 1, 1) := by decide +kernel
theorem dX4_run_2 : decode cX4_run 2 = .ok (.sipush 2000, 3) := by decide +kernel
theorem dX4_run_5 : decode cX4_run 5 = .ok (.invokestatic 75, 3) := by decide +kernel
theorem dX4_run_8 : decode cX4_run 8 = .ok (.ifCond .ne 6, 3) := by decide +kernel
theorem dX4_run_11 : decode cX4_run 11 = .ok (.bipush (-2), 2) := by decide +kernel
theorem dX4_run_13 : decode cX4_run 13 = .ok (.ireturn, 1) := by decide +kernel
theorem dX4_run_14 : decode cX4_run 14 = .ok (.aload_n 0, 1) := by decide +kernel
theorem dX4_run_15 : decode cX4_run 15 = .ok (.getfield 10, 3) := by decide +kernel
theorem dX4_run_18 : decode cX4_run 18 = .ok (.getfield 117, 3) := by decide +kernel
theorem dX4_run_21 : decode cX4_run 21 = .ok (.iload_n 1, 1) := by decide +kernel
theorem dX4_run_22 : decode cX4_run 22 = .ok (.iadd, 1) := by decide +kernel
theorem dX4_run_23 : decode cX4_run 23 = .ok (.ldc 120, 2) := by decide +kernel
theorem dX4_run_25 : decode cX4_run 25 = .ok (.if_icmp .le 6, 3) := by decide +kernel
theorem dX4_run_28 : decode cX4_run 28 = .ok (.bipush (-5), 2) := by decide +kernel
theorem dX4_run_30 : decode cX4_run 30 = .ok (.ireturn, 1) := by decide +kernel
theorem dX4_run_31 : decode cX4_run 31 = .ok (.iconst 0, 1) := by decide +kernel
theorem dX4_run_32 : decode cX4_run 32 = .ok (.istore_n 2, 1) := by decide +kernel
theorem dX4_run_33 : decode cX4_run 33 = .ok (.iload_n 2, 1) := by decide +kernel
theorem dX4_run_34 : decode cX4_run 34 = .ok (.iload_n 1, 1) := by decide +kernel
theorem dX4_run_35 : decode cX4_run 35 = .ok (.if_icmp .ge 17, 3) := by decide +kernel
theorem dX4_run_38 : decode cX4_run 38 = .ok (.aload_n 0, 1) := by decide +kernel
theorem dX4_run_39 : decode cX4_run 39 = .ok (.getfield 10, 3) := by decide +kernel
theorem dX4_run_42 : decode cX4_run 42 = .ok (.invokevirtual 121, 3) := by decide +kernel
theorem dX4_run_45 : decode cX4_run 45 = .ok (.pop, 1) := by decide +kernel
theorem dX4_run_46 : decode cX4_run 46 = .ok (.iinc 2 1, 3) := by decide +kernel
theorem dX4_run_49 : decode cX4_run 49 = .ok (.goto (-16), 3) := by decide +kernel
theorem dX4_run_52 : decode cX4_run 52 = .ok (.aload_n 0, 1) := by decide +kernel
theorem dX4_run_53 : decode cX4_run 53 = .ok (.getfield 10, 3) := by decide +kernel
theorem dX4_run_56 : decode cX4_run 56 = .ok (.getfield 117, 3) := by decide +kernel
theorem dX4_run_59 : decode cX4_run 59 = .ok (.ireturn, 1) := by decide +kernel
theorem dX4_powerCycle_0 : decode cX4_powerCycle 0 = .ok (.aload_n 0, 1) := by decide +kernel
theorem dX4_powerCycle_1 : decode cX4_powerCycle 1 = .ok (.getfield 10, 3) := by decide +kernel
theorem dX4_powerCycle_4 : decode cX4_powerCycle 4 = .ok (.getfield 129, 3) := by decide +kernel
theorem dX4_powerCycle_7 : decode cX4_powerCycle 7 = .ok (.istore_n 1, 1) := by decide +kernel
theorem dX4_powerCycle_8 : decode cX4_powerCycle 8 = .ok (.aload_n 0, 1) := by decide +kernel
theorem dX4_powerCycle_9 : decode cX4_powerCycle 9 = .ok (.getfield 10, 3) := by decide +kernel
theorem dX4_powerCycle_12 : decode cX4_powerCycle 12 = .ok (.invokevirtual 150, 3) := by decide +kernel
theorem dX4_powerCycle_15 : decode cX4_powerCycle 15 = .ok (.iload_n 1, 1) := by decide +kernel
theorem dX4_powerCycle_16 : decode cX4_powerCycle 16 = .ok (.ireturn, 1) := by decide +kernel
theorem dX4_state_0 : decode cX4_state 0 = .ok (.iload_n 1, 1) := by decide +kernel
theorem dX4_state_1 : decode cX4_state 1 = .ok (.bipush 13, 2) := by decide +kernel
theorem dX4_state_3 : decode cX4_state 3 = .ok (.bipush 20, 2) := by decide +kernel
theorem dX4_state_5 : decode cX4_state 5 = .ok (.invokestatic 75, 3) := by decide +kernel
theorem dX4_state_8 : decode cX4_state 8 = .ok (.ifCond .eq 16, 3) := by decide +kernel
theorem dX4_state_11 : decode cX4_state 11 = .ok (.aload_n 0, 1) := by decide +kernel
theorem dX4_state_12 : decode cX4_state 12 = .ok (.getfield 10, 3) := by decide +kernel
theorem dX4_state_15 : decode cX4_state 15 = .ok (.getfield 45, 3) := by decide +kernel
theorem dX4_state_18 : decode cX4_state 18 = .ok (.iload_n 1, 1) := by decide +kernel
theorem dX4_state_19 : decode cX4_state 19 = .ok (.bipush 13, 2) := by decide +kernel
theorem dX4_state_21 : decode cX4_state 21 = .ok (.isub, 1) := by decide +kernel
theorem dX4_state_22 : decode cX4_state 22 = .ok (.iaload, 1) := by decide +kernel
theorem dX4_state_23 : decode cX4_state 23 = .ok (.ireturn, 1) := by decide +kernel
theorem dX4_state_24 : decode cX4_state 24 = .ok (.iload_n 1, 1) := by decide +kernel
theorem dX4_state_25 : decode cX4_state 25 = .ok (.tableswitch 223 0 12 #[67, 75, 83, 91, 99, 121, 136, 151, 166, 181, 192, 200, 215], 67) := by decide +kernel
theorem dX4_state_92 : decode cX4_state 92 = .ok (.aload_n 0, 1) := by decide +kernel
theorem dX4_state_93 : decode cX4_state 93 = .ok (.getfield 10, 3) := by decide +kernel
theorem dX4_state_96 : decode cX4_state 96 = .ok (.getfield 117, 3) := by decide +kernel
theorem dX4_state_99 : decode cX4_state 99 = .ok (.ireturn, 1) := by decide +kernel
theorem dX4_state_100 : decode cX4_state 100 = .ok (.aload_n 0, 1) := by decide +kernel
theorem dX4_state_101 : decode cX4_state 101 = .ok (.getfield 10, 3) := by decide +kernel
theorem dX4_state_104 : decode cX4_state 104 = .ok (.getfield 129, 3) := by decide +kernel
theorem dX4_state_107 : decode cX4_state 107 = .ok (.ireturn, 1) := by decide +kernel
theorem dX4_state_108 : decode cX4_state 108 = .ok (.aload_n 0, 1) := by decide +kernel
theorem dX4_state_109 : decode cX4_state 109 = .ok (.getfield 10, 3) := by decide +kernel
theorem dX4_state_112 : decode cX4_state 112 = .ok (.getfield 153, 3) := by decide +kernel
theorem dX4_state_115 : decode cX4_state 115 = .ok (.ireturn, 1) := by decide +kernel
theorem dX4_state_116 : decode cX4_state 116 = .ok (.aload_n 0, 1) := by decide +kernel
theorem dX4_state_117 : decode cX4_state 117 = .ok (.getfield 10, 3) := by decide +kernel
theorem dX4_state_120 : decode cX4_state 120 = .ok (.getfield 156, 3) := by decide +kernel
theorem dX4_state_123 : decode cX4_state 123 = .ok (.ireturn, 1) := by decide +kernel
theorem dX4_state_124 : decode cX4_state 124 = .ok (.aload_n 0, 1) := by decide +kernel
theorem dX4_state_125 : decode cX4_state 125 = .ok (.getfield 10, 3) := by decide +kernel
theorem dX4_state_128 : decode cX4_state 128 = .ok (.getfield 129, 3) := by decide +kernel
theorem dX4_state_131 : decode cX4_state 131 = .ok (.ifCond .ne 13, 3) := by decide +kernel
theorem dX4_state_134 : decode cX4_state 134 = .ok (.aload_n 0, 1) := by decide +kernel
theorem dX4_state_135 : decode cX4_state 135 = .ok (.getfield 10, 3) := by decide +kernel
theorem dX4_state_138 : decode cX4_state 138 = .ok (.getfield 159, 3) := by decide +kernel
theorem dX4_state_141 : decode cX4_state 141 = .ok (.goto 4, 3) := by decide +kernel
theorem dX4_state_144 : decode cX4_state 144 = .ok (.iconst 0, 1) := by decide +kernel
theorem dX4_state_145 : decode cX4_state 145 = .ok (.ireturn, 1) := by decide +kernel
theorem dX4_state_146 : decode cX4_state 146 = .ok (.aload_n 0, 1) := by decide +kernel
theorem dX4_state_147 : decode cX4_state 147 = .ok (.getfield 10, 3) := by decide +kernel
theorem dX4_state_150 : decode cX4_state 150 = .ok (.aload_n 0, 1) := by decide +kernel
theorem dX4_state_151 : decode cX4_state 151 = .ok (.getfield 10, 3) := by decide +kernel
theorem dX4_state_154 : decode cX4_state 154 = .ok (.getfield 162, 3) := by decide +kernel
theorem dX4_state_157 : decode cX4_state 157 = .ok (.invokevirtual 165, 3) := by decide +kernel
theorem dX4_state_160 : decode cX4_state 160 = .ok (.ireturn, 1) := by decide +kernel
theorem dX4_state_161 : decode cX4_state 161 = .ok (.aload_n 0, 1) := by decide +kernel
theorem dX4_state_162 : decode cX4_state 162 = .ok (.getfield 10, 3) := by decide +kernel
theorem dX4_state_165 : decode cX4_state 165 = .ok (.aload_n 0, 1) := by decide +kernel
theorem dX4_state_166 : decode cX4_state 166 = .ok (.getfield 10, 3) := by decide +kernel
theorem dX4_state_169 : decode cX4_state 169 = .ok (.getfield 132, 3) := by decide +kernel
theorem dX4_state_172 : decode cX4_state 172 = .ok (.invokevirtual 165, 3) := by decide +kernel
theorem dX4_state_175 : decode cX4_state 175 = .ok (.ireturn, 1) := by decide +kernel
theorem dX4_state_176 : decode cX4_state 176 = .ok (.aload_n 0, 1) := by decide +kernel
theorem dX4_state_177 : decode cX4_state 177 = .ok (.getfield 10, 3) := by decide +kernel
theorem dX4_state_180 : decode cX4_state 180 = .ok (.aload_n 0, 1) := by decide +kernel
theorem dX4_state_181 : decode cX4_state 181 = .ok (.getfield 10, 3) := by decide +kernel
theorem dX4_state_184 : decode cX4_state 184 = .ok (.getfield 168, 3) := by decide +kernel
theorem dX4_state_187 : decode cX4_state 187 = .ok (.invokevirtual 165, 3) := by decide +kernel
theorem dX4_state_190 : decode cX4_state 190 = .ok (.ireturn, 1) := by decide +kernel
theorem dX4_state_191 : decode cX4_state 191 = .ok (.aload_n 0, 1) := by decide +kernel
theorem dX4_state_192 : decode cX4_state 192 = .ok (.getfield 10, 3) := by decide +kernel
theorem dX4_state_195 : decode cX4_state 195 = .ok (.aload_n 0, 1) := by decide +kernel
theorem dX4_state_196 : decode cX4_state 196 = .ok (.getfield 10, 3) := by decide +kernel
theorem dX4_state_199 : decode cX4_state 199 = .ok (.getfield 171, 3) := by decide +kernel
theorem dX4_state_202 : decode cX4_state 202 = .ok (.invokevirtual 165, 3) := by decide +kernel
theorem dX4_state_205 : decode cX4_state 205 = .ok (.ireturn, 1) := by decide +kernel
theorem dX4_state_206 : decode cX4_state 206 = .ok (.aload_n 0, 1) := by decide +kernel
theorem dX4_state_207 : decode cX4_state 207 = .ok (.getfield 10, 3) := by decide +kernel
theorem dX4_state_210 : decode cX4_state 210 = .ok (.getfield 141, 3) := by decide +kernel
theorem dX4_state_213 : decode cX4_state 213 = .ok (.getfield 145, 3) := by decide +kernel
theorem dX4_state_216 : decode cX4_state 216 = .ok (.ireturn, 1) := by decide +kernel
theorem dX4_state_217 : decode cX4_state 217 = .ok (.aload_n 0, 1) := by decide +kernel
theorem dX4_state_218 : decode cX4_state 218 = .ok (.getfield 10, 3) := by decide +kernel
theorem dX4_state_221 : decode cX4_state 221 = .ok (.getfield 54, 3) := by decide +kernel
theorem dX4_state_224 : decode cX4_state 224 = .ok (.ireturn, 1) := by decide +kernel
theorem dX4_state_225 : decode cX4_state 225 = .ok (.aload_n 0, 1) := by decide +kernel
theorem dX4_state_226 : decode cX4_state 226 = .ok (.getfield 10, 3) := by decide +kernel
theorem dX4_state_229 : decode cX4_state 229 = .ok (.aload_n 0, 1) := by decide +kernel
theorem dX4_state_230 : decode cX4_state 230 = .ok (.getfield 10, 3) := by decide +kernel
theorem dX4_state_233 : decode cX4_state 233 = .ok (.invokevirtual 174, 3) := by decide +kernel
theorem dX4_state_236 : decode cX4_state 236 = .ok (.invokevirtual 165, 3) := by decide +kernel
theorem dX4_state_239 : decode cX4_state 239 = .ok (.ireturn, 1) := by decide +kernel
theorem dX4_state_240 : decode cX4_state 240 = .ok (.aload_n 0, 1) := by decide +kernel
theorem dX4_state_241 : decode cX4_state 241 = .ok (.getfield 30, 3) := by decide +kernel
theorem dX4_state_244 : decode cX4_state 244 = .ok (.getfield 90, 3) := by decide +kernel
theorem dX4_state_247 : decode cX4_state 247 = .ok (.ireturn, 1) := by decide +kernel
theorem dX4_state_248 : decode cX4_state 248 = .ok (.bipush (-2), 2) := by decide +kernel
theorem dX4_state_250 : decode cX4_state 250 = .ok (.ireturn, 1) := by decide +kernel
theorem dX4_task_0 : decode cX4_task 0 = .ok (.aload_n 0, 1) := by decide +kernel
theorem dX4_task_1 : decode cX4_task 1 = .ok (.iload_n 1, 1) := by decide +kernel
theorem dX4_task_2 : decode cX4_task 2 = .ok (.invokevirtual 68, 3) := by decide +kernel
theorem dX4_task_5 : decode cX4_task 5 = .ok (.ifCond .ne 5, 3) := by decide +kernel
theorem dX4_task_8 : decode cX4_task 8 = .ok (.iconst (-1), 1) := by decide +kernel
theorem dX4_task_9 : decode cX4_task 9 = .ok (.ireturn, 1) := by decide +kernel
theorem dX4_task_10 : decode cX4_task 10 = .ok (.aload_n 0, 1) := by decide +kernel
theorem dX4_task_11 : decode cX4_task 11 = .ok (.getfield 10, 3) := by decide +kernel
theorem dX4_task_14 : decode cX4_task 14 = .ok (.getfield 58, 3) := by decide +kernel
theorem dX4_task_17 : decode cX4_task 17 = .ok (.iload_n 1, 1) := by decide +kernel
theorem dX4_task_18 : decode cX4_task 18 = .ok (.aaload, 1) := by decide +kernel
theorem dX4_task_19 : decode cX4_task 19 = .ok (.astore_n 3, 1) := by decide +kernel
theorem dX4_task_20 : decode cX4_task 20 = .ok (.iload_n 2, 1) := by decide +kernel
theorem dX4_task_21 : decode cX4_task 21 = .ok (.iconst 0, 1) := by decide +kernel
theorem dX4_task_22 : decode cX4_task 22 = .ok (.bipush 7, 2) := by decide +kernel
theorem dX4_task_24 : decode cX4_task 24 = .ok (.invokestatic 75, 3) := by decide +kernel
theorem dX4_task_27 : decode cX4_task 27 = .ok (.ifCond .eq 10, 3) := by decide +kernel
theorem dX4_task_30 : decode cX4_task 30 = .ok (.aload_n 3, 1) := by decide +kernel
theorem dX4_task_31 : decode cX4_task 31 = .ok (.getfield 72, 3) := by decide +kernel
theorem dX4_task_34 : decode cX4_task 34 = .ok (.iload_n 2, 1) := by decide +kernel
theorem dX4_task_35 : decode cX4_task 35 = .ok (.iaload, 1) := by decide +kernel
theorem dX4_task_36 : decode cX4_task 36 = .ok (.ireturn, 1) := by decide +kernel
theorem dX4_task_37 : decode cX4_task 37 = .ok (.iload_n 2, 1) := by decide +kernel
theorem dX4_task_38 : decode cX4_task 38 = .ok (.bipush 8, 2) := by decide +kernel
theorem dX4_task_40 : decode cX4_task 40 = .ok (.bipush 13, 2) := by decide +kernel
theorem dX4_task_42 : decode cX4_task 42 = .ok (.invokestatic 75, 3) := by decide +kernel
theorem dX4_task_45 : decode cX4_task 45 = .ok (.ifCond .eq 16, 3) := by decide +kernel
theorem dX4_task_48 : decode cX4_task 48 = .ok (.aload_n 0, 1) := by decide +kernel
theorem dX4_task_49 : decode cX4_task 49 = .ok (.getfield 10, 3) := by decide +kernel
theorem dX4_task_52 : decode cX4_task 52 = .ok (.aload_n 3, 1) := by decide +kernel
theorem dX4_task_53 : decode cX4_task 53 = .ok (.iload_n 2, 1) := by decide +kernel
theorem dX4_task_54 : decode cX4_task 54 = .ok (.invokevirtual 177, 3) := by decide +kernel
theorem dX4_task_57 : decode cX4_task 57 = .ok (.invokevirtual 165, 3) := by decide +kernel
theorem dX4_task_60 : decode cX4_task 60 = .ok (.ireturn, 1) := by decide +kernel
theorem dX4_task_61 : decode cX4_task 61 = .ok (.iload_n 2, 1) := by decide +kernel
theorem dX4_task_62 : decode cX4_task 62 = .ok (.tableswitch 75 14 18 #[34, 41, 48, 53, 70], 34) := by decide +kernel
theorem dX4_task_96 : decode cX4_task 96 = .ok (.aload_n 3, 1) := by decide +kernel
theorem dX4_task_97 : decode cX4_task 97 = .ok (.getfield 79, 3) := by decide +kernel
theorem dX4_task_100 : decode cX4_task 100 = .ok (.iconst 0, 1) := by decide +kernel
theorem dX4_task_101 : decode cX4_task 101 = .ok (.iaload, 1) := by decide +kernel
theorem dX4_task_102 : decode cX4_task 102 = .ok (.ireturn, 1) := by decide +kernel
theorem dX4_task_103 : decode cX4_task 103 = .ok (.aload_n 3, 1) := by decide +kernel
theorem dX4_task_104 : decode cX4_task 104 = .ok (.getfield 79, 3) := by decide +kernel
theorem dX4_task_107 : decode cX4_task 107 = .ok (.iconst 1, 1) := by decide +kernel
theorem dX4_task_108 : decode cX4_task 108 = .ok (.iaload, 1) := by decide +kernel
theorem dX4_task_109 : decode cX4_task 109 = .ok (.ireturn, 1) := by decide +kernel
theorem dX4_task_110 : decode cX4_task 110 = .ok (.aload_n 3, 1) := by decide +kernel
theorem dX4_task_111 : decode cX4_task 111 = .ok (.getfield 180, 3) := by decide +kernel
theorem dX4_task_114 : decode cX4_task 114 = .ok (.ireturn, 1) := by decide +kernel
theorem dX4_task_115 : decode cX4_task 115 = .ok (.aload_n 3, 1) := by decide +kernel
theorem dX4_task_116 : decode cX4_task 116 = .ok (.getfield 183, 3) := by decide +kernel
theorem dX4_task_119 : decode cX4_task 119 = .ok (.ifCond .eq 10, 3) := by decide +kernel
theorem dX4_task_122 : decode cX4_task 122 = .ok (.aload_n 3, 1) := by decide +kernel
theorem dX4_task_123 : decode cX4_task 123 = .ok (.getfield 187, 3) := by decide +kernel
theorem dX4_task_126 : decode cX4_task 126 = .ok (.goto 5, 3) := by decide +kernel
theorem dX4_task_129 : decode cX4_task 129 = .ok (.bipush (-6), 2) := by decide +kernel
theorem dX4_task_131 : decode cX4_task 131 = .ok (.ireturn, 1) := by decide +kernel
theorem dX4_task_132 : decode cX4_task 132 = .ok (.aload_n 3, 1) := by decide +kernel
theorem dX4_task_133 : decode cX4_task 133 = .ok (.getfield 190, 3) := by decide +kernel
theorem dX4_task_136 : decode cX4_task 136 = .ok (.ireturn, 1) := by decide +kernel
theorem dX4_task_137 : decode cX4_task 137 = .ok (.bipush (-2), 2) := by decide +kernel
theorem dX4_task_139 : decode cX4_task 139 = .ok (.ireturn, 1) := by decide +kernel
theorem dX4_record_0 : decode cX4_record 0 = .ok (.iload_n 2, 1) := by decide +kernel
theorem dX4_record_1 : decode cX4_record 1 = .ok (.iconst 0, 1) := by decide +kernel
theorem dX4_record_2 : decode cX4_record 2 = .ok (.iconst 4, 1) := by decide +kernel
theorem dX4_record_3 : decode cX4_record 3 = .ok (.invokestatic 75, 3) := by decide +kernel
theorem dX4_record_6 : decode cX4_record 6 = .ok (.ifCond .ne 6, 3) := by decide +kernel
theorem dX4_record_9 : decode cX4_record 9 = .ok (.bipush (-2), 2) := by decide +kernel
theorem dX4_record_11 : decode cX4_record 11 = .ok (.ireturn, 1) := by decide +kernel
theorem dX4_record_12 : decode cX4_record 12 = .ok (.aload_n 0, 1) := by decide +kernel
theorem dX4_record_13 : decode cX4_record 13 = .ok (.getfield 10, 3) := by decide +kernel
theorem dX4_record_16 : decode cX4_record 16 = .ok (.getfield 141, 3) := by decide +kernel
theorem dX4_record_19 : decode cX4_record 19 = .ok (.iload_n 1, 1) := by decide +kernel
theorem dX4_record_20 : decode cX4_record 20 = .ok (.iload_n 2, 1) := by decide +kernel
theorem dX4_record_21 : decode cX4_record 21 = .ok (.invokevirtual 193, 3) := by decide +kernel
theorem dX4_record_24 : decode cX4_record 24 = .ok (.ireturn, 1) := by decide +kernel
theorem dX4_forecast_0 : decode cX4_forecast 0 = .ok (.iload_n 1, 1) := by decide +kernel
theorem dX4_forecast_1 : decode cX4_forecast 1 = .ok (.iconst 1, 1) := by decide +kernel
theorem dX4_forecast_2 : decode cX4_forecast 2 = .ok (.sipush 5000, 3) := by decide +kernel
theorem dX4_forecast_5 : decode cX4_forecast 5 = .ok (.invokestatic 75, 3) := by decide +kernel
theorem dX4_forecast_8 : decode cX4_forecast 8 = .ok (.ifCond .ne 6, 3) := by decide +kernel
theorem dX4_forecast_11 : decode cX4_forecast 11 = .ok (.bipush (-2), 2) := by decide +kernel
theorem dX4_forecast_13 : decode cX4_forecast 13 = .ok (.ireturn, 1) := by decide +kernel
theorem dX4_forecast_14 : decode cX4_forecast 14 = .ok (.aload_n 0, 1) := by decide +kernel
theorem dX4_forecast_15 : decode cX4_forecast 15 = .ok (.getfield 16, 3) := by decide +kernel
theorem dX4_forecast_18 : decode cX4_forecast 18 = .ok (.aload_n 0, 1) := by decide +kernel
theorem dX4_forecast_19 : decode cX4_forecast 19 = .ok (.getfield 10, 3) := by decide +kernel
theorem dX4_forecast_22 : decode cX4_forecast 22 = .ok (.invokevirtual 200, 3) := by decide +kernel
theorem dX4_forecast_25 : decode cX4_forecast 25 = .ok (.aload_n 0, 1) := by decide +kernel
theorem dX4_forecast_26 : decode cX4_forecast 26 = .ok (.getfield 16, 3) := by decide +kernel
theorem dX4_forecast_29 : decode cX4_forecast 29 = .ok (.iload_n 1, 1) := by decide +kernel
theorem dX4_forecast_30 : decode cX4_forecast 30 = .ok (.invokevirtual 125, 3) := by decide +kernel
theorem dX4_forecast_33 : decode cX4_forecast 33 = .ok (.ireturn, 1) := by decide +kernel
theorem dX4_hasTask_0 : decode cX4_hasTask 0 = .ok (.iload_n 1, 1) := by decide +kernel
theorem dX4_hasTask_1 : decode cX4_hasTask 1 = .ok (.iconst 0, 1) := by decide +kernel
theorem dX4_hasTask_2 : decode cX4_hasTask 2 = .ok (.aload_n 0, 1) := by decide +kernel
theorem dX4_hasTask_3 : decode cX4_hasTask 3 = .ok (.getfield 10, 3) := by decide +kernel
theorem dX4_hasTask_6 : decode cX4_hasTask 6 = .ok (.getfield 54, 3) := by decide +kernel
theorem dX4_hasTask_9 : decode cX4_hasTask 9 = .ok (.iconst 1, 1) := by decide +kernel
theorem dX4_hasTask_10 : decode cX4_hasTask 10 = .ok (.isub, 1) := by decide +kernel
theorem dX4_hasTask_11 : decode cX4_hasTask 11 = .ok (.invokestatic 75, 3) := by decide +kernel
theorem dX4_hasTask_14 : decode cX4_hasTask 14 = .ok (.ireturn, 1) := by decide +kernel
theorem dX4_isWithin_0 : decode cX4_isWithin 0 = .ok (.iload_n 0, 1) := by decide +kernel
theorem dX4_isWithin_1 : decode cX4_isWithin 1 = .ok (.iload_n 1, 1) := by decide +kernel
theorem dX4_isWithin_2 : decode cX4_isWithin 2 = .ok (.if_icmp .lt 12, 3) := by decide +kernel
theorem dX4_isWithin_5 : decode cX4_isWithin 5 = .ok (.iload_n 0, 1) := by decide +kernel
theorem dX4_isWithin_6 : decode cX4_isWithin 6 = .ok (.iload_n 2, 1) := by decide +kernel
theorem dX4_isWithin_7 : decode cX4_isWithin 7 = .ok (.if_icmp .gt 7, 3) := by decide +kernel
theorem dX4_isWithin_10 : decode cX4_isWithin 10 = .ok (.iconst 1, 1) := by decide +kernel
theorem dX4_isWithin_11 : decode cX4_isWithin 11 = .ok (.goto 4, 3) := by decide +kernel
theorem dX4_isWithin_14 : decode cX4_isWithin 14 = .ok (.iconst 0, 1) := by decide +kernel
theorem dX4_isWithin_15 : decode cX4_isWithin 15 = .ok (.ireturn, 1) := by decide +kernel
theorem dX4_isAllowed_0 : decode cX4_isAllowed 0 = .ok (.iload_n 0, 1) := by decide +kernel
theorem dX4_isAllowed_1 : decode cX4_isAllowed 1 = .ok (.ifCond .lt 32, 3) := by decide +kernel
theorem dX4_isAllowed_4 : decode cX4_isAllowed 4 = .ok (.iload_n 0, 1) := by decide +kernel
theorem dX4_isAllowed_5 : decode cX4_isAllowed 5 = .ok (.aload_n 2, 1) := by decide +kernel
theorem dX4_isAllowed_6 : decode cX4_isAllowed 6 = .ok (.arraylength, 1) := by decide +kernel
theorem dX4_isAllowed_7 : decode cX4_isAllowed 7 = .ok (.if_icmp .ge 26, 3) := by decide +kernel
theorem dX4_isAllowed_10 : decode cX4_isAllowed 10 = .ok (.iload_n 0, 1) := by decide +kernel
theorem dX4_isAllowed_11 : decode cX4_isAllowed 11 = .ok (.aload_n 3, 1) := by decide +kernel
theorem dX4_isAllowed_12 : decode cX4_isAllowed 12 = .ok (.arraylength, 1) := by decide +kernel
theorem dX4_isAllowed_13 : decode cX4_isAllowed 13 = .ok (.if_icmp .ge 20, 3) := by decide +kernel
theorem dX4_isAllowed_16 : decode cX4_isAllowed 16 = .ok (.iload_n 1, 1) := by decide +kernel
theorem dX4_isAllowed_17 : decode cX4_isAllowed 17 = .ok (.aload_n 2, 1) := by decide +kernel
theorem dX4_isAllowed_18 : decode cX4_isAllowed 18 = .ok (.iload_n 0, 1) := by decide +kernel
theorem dX4_isAllowed_19 : decode cX4_isAllowed 19 = .ok (.iaload, 1) := by decide +kernel
theorem dX4_isAllowed_20 : decode cX4_isAllowed 20 = .ok (.aload_n 3, 1) := by decide +kernel
theorem dX4_isAllowed_21 : decode cX4_isAllowed 21 = .ok (.iload_n 0, 1) := by decide +kernel
theorem dX4_isAllowed_22 : decode cX4_isAllowed 22 = .ok (.iaload, 1) := by decide +kernel
theorem dX4_isAllowed_23 : decode cX4_isAllowed 23 = .ok (.invokestatic 75, 3) := by decide +kernel
theorem dX4_isAllowed_26 : decode cX4_isAllowed 26 = .ok (.ifCond .eq 7, 3) := by decide +kernel
theorem dX4_isAllowed_29 : decode cX4_isAllowed 29 = .ok (.iconst 1, 1) := by decide +kernel
theorem dX4_isAllowed_30 : decode cX4_isAllowed 30 = .ok (.goto 4, 3) := by decide +kernel
theorem dX4_isAllowed_33 : decode cX4_isAllowed 33 = .ok (.iconst 0, 1) := by decide +kernel
theorem dX4_isAllowed_34 : decode cX4_isAllowed 34 = .ok (.ireturn, 1) := by decide +kernel
theorem dX4_divides_0 : decode cX4_divides 0 = .ok (.iload_n 0, 1) := by decide +kernel
theorem dX4_divides_1 : decode cX4_divides 1 = .ok (.ifCond .le 13, 3) := by decide +kernel
theorem dX4_divides_4 : decode cX4_divides 4 = .ok (.iload_n 1, 1) := by decide +kernel
theorem dX4_divides_5 : decode cX4_divides 5 = .ok (.iload_n 0, 1) := by decide +kernel
theorem dX4_divides_6 : decode cX4_divides 6 = .ok (.irem, 1) := by decide +kernel
theorem dX4_divides_7 : decode cX4_divides 7 = .ok (.ifCond .ne 7, 3) := by decide +kernel
theorem dX4_divides_10 : decode cX4_divides 10 = .ok (.iconst 1, 1) := by decide +kernel
theorem dX4_divides_11 : decode cX4_divides 11 = .ok (.goto 4, 3) := by decide +kernel
theorem dX4_divides_14 : decode cX4_divides 14 = .ok (.iconst 0, 1) := by decide +kernel
theorem dX4_divides_15 : decode cX4_divides 15 = .ok (.ireturn, 1) := by decide +kernel
end
section
theorem dJ9_max_7cf53_0 : decode cJ9_max_7cf53 0 = .ok (.iload_n 0, 1) := by decide +kernel
theorem dJ9_max_7cf53_1 : decode cJ9_max_7cf53 1 = .ok (.iload_n 1, 1) := by decide +kernel
theorem dJ9_max_7cf53_2 : decode cJ9_max_7cf53 2 = .ok (.if_icmp .lt 7, 3) := by decide +kernel
theorem dJ9_max_7cf53_5 : decode cJ9_max_7cf53 5 = .ok (.iload_n 0, 1) := by decide +kernel
theorem dJ9_max_7cf53_6 : decode cJ9_max_7cf53 6 = .ok (.goto 4, 3) := by decide +kernel
theorem dJ9_max_7cf53_9 : decode cJ9_max_7cf53 9 = .ok (.iload_n 1, 1) := by decide +kernel
theorem dJ9_max_7cf53_10 : decode cJ9_max_7cf53 10 = .ok (.ireturn, 1) := by decide +kernel
theorem dL_cell_0 : decode cL_cell 0 = .ok (.aload_n 0, 1) := by decide +kernel
theorem dL_cell_1 : decode cL_cell 1 = .ok (.arraylength, 1) := by decide +kernel
theorem dL_cell_2 : decode cL_cell 2 = .ok (.ifCond .ne 12, 3) := by decide +kernel
theorem dL_cell_5 : decode cL_cell 5 = .ok (.iload_n 1, 1) := by decide +kernel
theorem dL_cell_6 : decode cL_cell 6 = .ok (.bipush 37, 2) := by decide +kernel
theorem dL_cell_8 : decode cL_cell 8 = .ok (.imul, 1) := by decide +kernel
theorem dL_cell_9 : decode cL_cell 9 = .ok (.iconst 5, 1) := by decide +kernel
theorem dL_cell_10 : decode cL_cell 10 = .ok (.iadd, 1) := by decide +kernel
theorem dL_cell_11 : decode cL_cell 11 = .ok (.goto 17, 3) := by decide +kernel
theorem dL_cell_14 : decode cL_cell 14 = .ok (.aload_n 0, 1) := by decide +kernel
theorem dL_cell_15 : decode cL_cell 15 = .ok (.iload_n 1, 1) := by decide +kernel
theorem dL_cell_16 : decode cL_cell 16 = .ok (.aload_n 0, 1) := by decide +kernel
theorem dL_cell_17 : decode cL_cell 17 = .ok (.arraylength, 1) := by decide +kernel
theorem dL_cell_18 : decode cL_cell 18 = .ok (.irem, 1) := by decide +kernel
theorem dL_cell_19 : decode cL_cell 19 = .ok (.iaload, 1) := by decide +kernel
theorem dL_cell_20 : decode cL_cell 20 = .ok (.iload_n 1, 1) := by decide +kernel
theorem dL_cell_21 : decode cL_cell 21 = .ok (.bipush 7, 2) := by decide +kernel
theorem dL_cell_23 : decode cL_cell 23 = .ok (.irem, 1) := by decide +kernel
theorem dL_cell_24 : decode cL_cell 24 = .ok (.ishr, 1) := by decide +kernel
theorem dL_cell_25 : decode cL_cell 25 = .ok (.ldc 7, 2) := by decide +kernel
theorem dL_cell_27 : decode cL_cell 27 = .ok (.iand, 1) := by decide +kernel
theorem dL_cell_28 : decode cL_cell 28 = .ok (.iload_n 2, 1) := by decide +kernel
theorem dL_cell_29 : decode cL_cell 29 = .ok (.irem, 1) := by decide +kernel
theorem dL_cell_30 : decode cL_cell 30 = .ok (.ireturn, 1) := by decide +kernel
theorem dL_anew_0 : decode cL_anew 0 = .ok (.iconst 4, 1) := by decide +kernel
theorem dL_anew_1 : decode cL_anew 1 = .ok (.istore_n 2, 1) := by decide +kernel
theorem dL_anew_2 : decode cL_anew 2 = .ok (.iload_n 2, 1) := by decide +kernel
theorem dL_anew_3 : decode cL_anew 3 = .ok (.bipush 7, 2) := by decide +kernel
theorem dL_anew_5 : decode cL_anew 5 = .ok (.if_icmp .gt 13, 3) := by decide +kernel
theorem dL_anew_8 : decode cL_anew 8 = .ok (.aload_n 0, 1) := by decide +kernel
theorem dL_anew_9 : decode cL_anew 9 = .ok (.iload_n 2, 1) := by decide +kernel
theorem dL_anew_10 : decode cL_anew 10 = .ok (.iconst 0, 1) := by decide +kernel
theorem dL_anew_11 : decode cL_anew 11 = .ok (.iastore, 1) := by decide +kernel
theorem dL_anew_12 : decode cL_anew 12 = .ok (.iinc 2 1, 3) := by decide +kernel
theorem dL_anew_15 : decode cL_anew 15 = .ok (.goto (-13), 3) := by decide +kernel
theorem dL_anew_18 : decode cL_anew 18 = .ok (.iconst 0, 1) := by decide +kernel
theorem dL_anew_19 : decode cL_anew 19 = .ok (.istore_n 2, 1) := by decide +kernel
theorem dL_anew_20 : decode cL_anew 20 = .ok (.iload_n 2, 1) := by decide +kernel
theorem dL_anew_21 : decode cL_anew 21 = .ok (.bipush 30, 2) := by decide +kernel
theorem dL_anew_23 : decode cL_anew 23 = .ok (.if_icmp .ge 28, 3) := by decide +kernel
theorem dL_anew_26 : decode cL_anew 26 = .ok (.aload_n 1, 1) := by decide +kernel
theorem dL_anew_27 : decode cL_anew 27 = .ok (.iload_n 2, 1) := by decide +kernel
theorem dL_anew_28 : decode cL_anew 28 = .ok (.iload_n 2, 1) := by decide +kernel
theorem dL_anew_29 : decode cL_anew 29 = .ok (.bipush 10, 2) := by decide +kernel
theorem dL_anew_31 : decode cL_anew 31 = .ok (.irem, 1) := by decide +kernel
theorem dL_anew_32 : decode cL_anew 32 = .ok (.bipush 8, 2) := by decide +kernel
theorem dL_anew_34 : decode cL_anew 34 = .ok (.if_icmp .ge 7, 3) := by decide +kernel
theorem dL_anew_37 : decode cL_anew 37 = .ok (.iconst 0, 1) := by decide +kernel
theorem dL_anew_38 : decode cL_anew 38 = .ok (.goto 6, 3) := by decide +kernel
theorem dL_anew_41 : decode cL_anew 41 = .ok (.aload_n 1, 1) := by decide +kernel
theorem dL_anew_42 : decode cL_anew 42 = .ok (.iload_n 2, 1) := by decide +kernel
theorem dL_anew_43 : decode cL_anew 43 = .ok (.iaload, 1) := by decide +kernel
theorem dL_anew_44 : decode cL_anew 44 = .ok (.iastore, 1) := by decide +kernel
theorem dL_anew_45 : decode cL_anew 45 = .ok (.iinc 2 1, 3) := by decide +kernel
theorem dL_anew_48 : decode cL_anew 48 = .ok (.goto (-28), 3) := by decide +kernel
theorem dL_anew_51 : decode cL_anew 51 = .ok (.return_, 1) := by decide +kernel
theorem dL_reset_0 : decode cL_reset 0 = .ok (.iload 4, 2) := by decide +kernel
theorem dL_reset_2 : decode cL_reset 2 = .ok (.istore 6, 2) := by decide +kernel
theorem dL_reset_4 : decode cL_reset 4 = .ok (.iconst 2, 1) := by decide +kernel
theorem dL_reset_5 : decode cL_reset 5 = .ok (.istore 7, 2) := by decide +kernel
theorem dL_reset_7 : decode cL_reset 7 = .ok (.iload 7, 2) := by decide +kernel
theorem dL_reset_9 : decode cL_reset 9 = .ok (.ifCond .lt 37, 3) := by decide +kernel
theorem dL_reset_12 : decode cL_reset 12 = .ok (.iload_n 3, 1) := by decide +kernel
theorem dL_reset_13 : decode cL_reset 13 = .ok (.iconst 3, 1) := by decide +kernel
theorem dL_reset_14 : decode cL_reset 14 = .ok (.if_icmp .eq 32, 3) := by decide +kernel
theorem dL_reset_17 : decode cL_reset 17 = .ok (.aload_n 2, 1) := by decide +kernel
theorem dL_reset_18 : decode cL_reset 18 = .ok (.bipush 10, 2) := by decide +kernel
theorem dL_reset_20 : decode cL_reset 20 = .ok (.iload 7, 2) := by decide +kernel
theorem dL_reset_22 : decode cL_reset 22 = .ok (.imul, 1) := by decide +kernel
theorem dL_reset_23 : decode cL_reset 23 = .ok (.bipush 7, 2) := by decide +kernel
theorem dL_reset_25 : decode cL_reset 25 = .ok (.iadd, 1) := by decide +kernel
theorem dL_reset_26 : decode cL_reset 26 = .ok (.iaload, 1) := by decide +kernel
theorem dL_reset_27 : decode cL_reset 27 = .ok (.iconst 1, 1) := by decide +kernel
theorem dL_reset_28 : decode cL_reset 28 = .ok (.if_icmp .ne 8, 3) := by decide +kernel
theorem dL_reset_31 : decode cL_reset 31 = .ok (.iload 7, 2) := by decide +kernel
theorem dL_reset_33 : decode cL_reset 33 = .ok (.goto 5, 3) := by decide +kernel
theorem dL_reset_36 : decode cL_reset 36 = .ok (.iload 6, 2) := by decide +kernel
theorem dL_reset_38 : decode cL_reset 38 = .ok (.istore 6, 2) := by decide +kernel
theorem dL_reset_40 : decode cL_reset 40 = .ok (.iinc 7 (-1), 3) := by decide +kernel
theorem dL_reset_43 : decode cL_reset 43 = .ok (.goto (-36), 3) := by decide +kernel
theorem dL_reset_46 : decode cL_reset 46 = .ok (.aload_n 1, 1) := by decide +kernel
theorem dL_reset_47 : decode cL_reset 47 = .ok (.bipush 9, 2) := by decide +kernel
theorem dL_reset_49 : decode cL_reset 49 = .ok (.iload_n 3, 1) := by decide +kernel
theorem dL_reset_50 : decode cL_reset 50 = .ok (.iastore, 1) := by decide +kernel
theorem dL_reset_51 : decode cL_reset 51 = .ok (.aload_n 1, 1) := by decide +kernel
theorem dL_reset_52 : decode cL_reset 52 = .ok (.bipush 10, 2) := by decide +kernel
theorem dL_reset_54 : decode cL_reset 54 = .ok (.iload 5, 2) := by decide +kernel
theorem dL_reset_56 : decode cL_reset 56 = .ok (.iastore, 1) := by decide +kernel
theorem dL_reset_57 : decode cL_reset 57 = .ok (.aload_n 1, 1) := by decide +kernel
theorem dL_reset_58 : decode cL_reset 58 = .ok (.bipush 11, 2) := by decide +kernel
theorem dL_reset_60 : decode cL_reset 60 = .ok (.iload 6, 2) := by decide +kernel
theorem dL_reset_62 : decode cL_reset 62 = .ok (.iastore, 1) := by decide +kernel
theorem dL_reset_63 : decode cL_reset 63 = .ok (.aload_n 1, 1) := by decide +kernel
theorem dL_reset_64 : decode cL_reset 64 = .ok (.bipush 12, 2) := by decide +kernel
theorem dL_reset_66 : decode cL_reset 66 = .ok (.aload_n 1, 1) := by decide +kernel
theorem dL_reset_67 : decode cL_reset 67 = .ok (.iconst 1, 1) := by decide +kernel
theorem dL_reset_68 : decode cL_reset 68 = .ok (.iaload, 1) := by decide +kernel
theorem dL_reset_69 : decode cL_reset 69 = .ok (.iastore, 1) := by decide +kernel
theorem dL_reset_70 : decode cL_reset 70 = .ok (.aload_n 1, 1) := by decide +kernel
theorem dL_reset_71 : decode cL_reset 71 = .ok (.bipush 13, 2) := by decide +kernel
theorem dL_reset_73 : decode cL_reset 73 = .ok (.aload_n 1, 1) := by decide +kernel
theorem dL_reset_74 : decode cL_reset 74 = .ok (.iconst 4, 1) := by decide +kernel
theorem dL_reset_75 : decode cL_reset 75 = .ok (.iaload, 1) := by decide +kernel
theorem dL_reset_76 : decode cL_reset 76 = .ok (.iastore, 1) := by decide +kernel
theorem dL_reset_77 : decode cL_reset 77 = .ok (.aload_n 1, 1) := by decide +kernel
theorem dL_reset_78 : decode cL_reset 78 = .ok (.bipush 8, 2) := by decide +kernel
theorem dL_reset_80 : decode cL_reset 80 = .ok (.dup2, 1) := by decide +kernel
theorem dL_reset_81 : decode cL_reset 81 = .ok (.iaload, 1) := by decide +kernel
theorem dL_reset_82 : decode cL_reset 82 = .ok (.iconst 1, 1) := by decide +kernel
theorem dL_reset_83 : decode cL_reset 83 = .ok (.iadd, 1) := by decide +kernel
theorem dL_reset_84 : decode cL_reset 84 = .ok (.iastore, 1) := by decide +kernel
theorem dL_reset_85 : decode cL_reset 85 = .ok (.iload 6, 2) := by decide +kernel
theorem dL_reset_87 : decode cL_reset 87 = .ok (.ifCond .lt 17, 3) := by decide +kernel
theorem dL_reset_90 : decode cL_reset 90 = .ok (.aload_n 2, 1) := by decide +kernel
theorem dL_reset_91 : decode cL_reset 91 = .ok (.bipush 10, 2) := by decide +kernel
theorem dL_reset_93 : decode cL_reset 93 = .ok (.iload 6, 2) := by decide +kernel
theorem dL_reset_95 : decode cL_reset 95 = .ok (.imul, 1) := by decide +kernel
theorem dL_reset_96 : decode cL_reset 96 = .ok (.bipush 9, 2) := by decide +kernel
theorem dL_reset_98 : decode cL_reset 98 = .ok (.iadd, 1) := by decide +kernel
theorem dL_reset_99 : decode cL_reset 99 = .ok (.dup2, 1) := by decide +kernel
theorem dL_reset_100 : decode cL_reset 100 = .ok (.iaload, 1) := by decide +kernel
theorem dL_reset_101 : decode cL_reset 101 = .ok (.iconst 1, 1) := by decide +kernel
theorem dL_reset_102 : decode cL_reset 102 = .ok (.iadd, 1) := by decide +kernel
theorem dL_reset_103 : decode cL_reset 103 = .ok (.iastore, 1) := by decide +kernel
theorem dL_reset_104 : decode cL_reset 104 = .ok (.aload_n 1, 1) := by decide +kernel
theorem dL_reset_105 : decode cL_reset 105 = .ok (.iconst 2, 1) := by decide +kernel
theorem dL_reset_106 : decode cL_reset 106 = .ok (.dup2, 1) := by decide +kernel
theorem dL_reset_107 : decode cL_reset 107 = .ok (.iaload, 1) := by decide +kernel
theorem dL_reset_108 : decode cL_reset 108 = .ok (.iconst 1, 1) := by decide +kernel
theorem dL_reset_109 : decode cL_reset 109 = .ok (.iadd, 1) := by decide +kernel
theorem dL_reset_110 : decode cL_reset 110 = .ok (.iastore, 1) := by decide +kernel
theorem dL_reset_111 : decode cL_reset 111 = .ok (.aload_n 1, 1) := by decide +kernel
theorem dL_reset_112 : decode cL_reset 112 = .ok (.iconst 2, 1) := by decide +kernel
theorem dL_reset_113 : decode cL_reset 113 = .ok (.iaload, 1) := by decide +kernel
theorem dL_reset_114 : decode cL_reset 114 = .ok (.aload_n 0, 1) := by decide +kernel
theorem dL_reset_115 : decode cL_reset 115 = .ok (.bipush 20, 2) := by decide +kernel
theorem dL_reset_117 : decode cL_reset 117 = .ok (.invokevirtual 10, 3) := by decide +kernel
theorem dL_reset_120 : decode cL_reset 120 = .ok (.if_icmp .lt 7, 3) := by decide +kernel
theorem dL_reset_123 : decode cL_reset 123 = .ok (.iconst 1, 1) := by decide +kernel
theorem dL_reset_124 : decode cL_reset 124 = .ok (.goto 4, 3) := by decide +kernel
theorem dL_reset_127 : decode cL_reset 127 = .ok (.iconst 0, 1) := by decide +kernel
theorem dL_reset_128 : decode cL_reset 128 = .ok (.istore 7, 2) := by decide +kernel
theorem dL_reset_130 : decode cL_reset 130 = .ok (.iload 7, 2) := by decide +kernel
theorem dL_reset_132 : decode cL_reset 132 = .ok (.ifCond .eq 14, 3) := by decide +kernel
theorem dL_reset_135 : decode cL_reset 135 = .ok (.aload_n 1, 1) := by decide +kernel
theorem dL_reset_136 : decode cL_reset 136 = .ok (.iconst 1, 1) := by decide +kernel
theorem dL_reset_137 : decode cL_reset 137 = .ok (.iaload, 1) := by decide +kernel
theorem dL_reset_138 : decode cL_reset 138 = .ok (.iconst 1, 1) := by decide +kernel
theorem dL_reset_139 : decode cL_reset 139 = .ok (.if_icmp .ne 7, 3) := by decide +kernel
theorem dL_reset_142 : decode cL_reset 142 = .ok (.iconst 1, 1) := by decide +kernel
theorem dL_reset_143 : decode cL_reset 143 = .ok (.goto 4, 3) := by decide +kernel
theorem dL_reset_146 : decode cL_reset 146 = .ok (.iconst 0, 1) := by decide +kernel
theorem dL_reset_147 : decode cL_reset 147 = .ok (.istore 8, 2) := by decide +kernel
theorem dL_reset_149 : decode cL_reset 149 = .ok (.aload_n 1, 1) := by decide +kernel
theorem dL_reset_150 : decode cL_reset 150 = .ok (.iconst 2, 1) := by decide +kernel
theorem dL_reset_151 : decode cL_reset 151 = .ok (.iload 7, 2) := by decide +kernel
theorem dL_reset_153 : decode cL_reset 153 = .ok (.ifCond .eq 12, 3) := by decide +kernel
theorem dL_reset_156 : decode cL_reset 156 = .ok (.iload 8, 2) := by decide +kernel
theorem dL_reset_158 : decode cL_reset 158 = .ok (.ifCond .ne 7, 3) := by decide +kernel
theorem dL_reset_161 : decode cL_reset 161 = .ok (.iconst 0, 1) := by decide +kernel
theorem dL_reset_162 : decode cL_reset 162 = .ok (.goto 6, 3) := by decide +kernel
theorem dL_reset_165 : decode cL_reset 165 = .ok (.aload_n 1, 1) := by decide +kernel
theorem dL_reset_166 : decode cL_reset 166 = .ok (.iconst 2, 1) := by decide +kernel
theorem dL_reset_167 : decode cL_reset 167 = .ok (.iaload, 1) := by decide +kernel
theorem dL_reset_168 : decode cL_reset 168 = .ok (.iastore, 1) := by decide +kernel
theorem dL_reset_169 : decode cL_reset 169 = .ok (.aload_n 1, 1) := by decide +kernel
theorem dL_reset_170 : decode cL_reset 170 = .ok (.iconst 1, 1) := by decide +kernel
theorem dL_reset_171 : decode cL_reset 171 = .ok (.iload 7, 2) := by decide +kernel
theorem dL_reset_173 : decode cL_reset 173 = .ok (.ifCond .eq 7, 3) := by decide +kernel
theorem dL_reset_176 : decode cL_reset 176 = .ok (.iconst 1, 1) := by decide +kernel
theorem dL_reset_177 : decode cL_reset 177 = .ok (.goto 6, 3) := by decide +kernel
theorem dL_reset_180 : decode cL_reset 180 = .ok (.aload_n 1, 1) := by decide +kernel
theorem dL_reset_181 : decode cL_reset 181 = .ok (.iconst 1, 1) := by decide +kernel
theorem dL_reset_182 : decode cL_reset 182 = .ok (.iaload, 1) := by decide +kernel
theorem dL_reset_183 : decode cL_reset 183 = .ok (.iastore, 1) := by decide +kernel
theorem dL_reset_184 : decode cL_reset 184 = .ok (.aload_n 1, 1) := by decide +kernel
theorem dL_reset_185 : decode cL_reset 185 = .ok (.iconst 0, 1) := by decide +kernel
theorem dL_reset_186 : decode cL_reset 186 = .ok (.iload 8, 2) := by decide +kernel
theorem dL_reset_188 : decode cL_reset 188 = .ok (.ifCond .eq 7, 3) := by decide +kernel
theorem dL_reset_191 : decode cL_reset 191 = .ok (.iconst 2, 1) := by decide +kernel
theorem dL_reset_192 : decode cL_reset 192 = .ok (.goto 4, 3) := by decide +kernel
theorem dL_reset_195 : decode cL_reset 195 = .ok (.iconst 0, 1) := by decide +kernel
theorem dL_reset_196 : decode cL_reset 196 = .ok (.iastore, 1) := by decide +kernel
theorem dL_reset_197 : decode cL_reset 197 = .ok (.aload_n 1, 1) := by decide +kernel
theorem dL_reset_198 : decode cL_reset 198 = .ok (.iconst 3, 1) := by decide +kernel
theorem dL_reset_199 : decode cL_reset 199 = .ok (.iload 8, 2) := by decide +kernel
theorem dL_reset_201 : decode cL_reset 201 = .ok (.ifCond .eq 7, 3) := by decide +kernel
theorem dL_reset_204 : decode cL_reset 204 = .ok (.iconst 0, 1) := by decide +kernel
theorem dL_reset_205 : decode cL_reset 205 = .ok (.goto 9, 3) := by decide +kernel
theorem dL_reset_208 : decode cL_reset 208 = .ok (.aload_n 0, 1) := by decide +kernel
theorem dL_reset_209 : decode cL_reset 209 = .ok (.bipush 18, 2) := by decide +kernel
theorem dL_reset_211 : decode cL_reset 211 = .ok (.invokevirtual 10, 3) := by decide +kernel
theorem dL_reset_214 : decode cL_reset 214 = .ok (.iastore, 1) := by decide +kernel
theorem dL_reset_215 : decode cL_reset 215 = .ok (.aload_n 1, 1) := by decide +kernel
theorem dL_reset_216 : decode cL_reset 216 = .ok (.aload_n 2, 1) := by decide +kernel
theorem dL_reset_217 : decode cL_reset 217 = .ok (.invokestatic 16, 3) := by decide +kernel
theorem dL_reset_220 : decode cL_reset 220 = .ok (.return_, 1) := by decide +kernel
theorem dL_crashes_0 : decode cL_crashes 0 = .ok (.bipush 10, 2) := by decide +kernel
theorem dL_crashes_2 : decode cL_crashes 2 = .ok (.iload 4, 2) := by decide +kernel
theorem dL_crashes_4 : decode cL_crashes 4 = .ok (.imul, 1) := by decide +kernel
theorem dL_crashes_5 : decode cL_crashes 5 = .ok (.istore 5, 2) := by decide +kernel
theorem dL_crashes_7 : decode cL_crashes 7 = .ok (.bipush 9, 2) := by decide +kernel
theorem dL_crashes_9 : decode cL_crashes 9 = .ok (.aload_n 1, 1) := by decide +kernel
theorem dL_crashes_10 : decode cL_crashes 10 = .ok (.iconst 1, 1) := by decide +kernel
theorem dL_crashes_11 : decode cL_crashes 11 = .ok (.iaload, 1) := by decide +kernel
theorem dL_crashes_12 : decode cL_crashes 12 = .ok (.imul, 1) := by decide +kernel
theorem dL_crashes_13 : decode cL_crashes 13 = .ok (.iconst 3, 1) := by decide +kernel
theorem dL_crashes_14 : decode cL_crashes 14 = .ok (.iload 4, 2) := by decide +kernel
theorem dL_crashes_16 : decode cL_crashes 16 = .ok (.imul, 1) := by decide +kernel
theorem dL_crashes_17 : decode cL_crashes 17 = .ok (.iadd, 1) := by decide +kernel
theorem dL_crashes_18 : decode cL_crashes 18 = .ok (.istore 6, 2) := by decide +kernel
theorem dL_crashes_20 : decode cL_crashes 20 = .ok (.aload_n 2, 1) := by decide +kernel
theorem dL_crashes_21 : decode cL_crashes 21 = .ok (.iload 5, 2) := by decide +kernel
theorem dL_crashes_23 : decode cL_crashes 23 = .ok (.iconst 0, 1) := by decide +kernel
theorem dL_crashes_24 : decode cL_crashes 24 = .ok (.iadd, 1) := by decide +kernel
theorem dL_crashes_25 : decode cL_crashes 25 = .ok (.iaload, 1) := by decide +kernel
theorem dL_crashes_26 : decode cL_crashes 26 = .ok (.iconst 1, 1) := by decide +kernel
theorem dL_crashes_27 : decode cL_crashes 27 = .ok (.if_icmp .ne 42, 3) := by decide +kernel
theorem dL_crashes_30 : decode cL_crashes 30 = .ok (.aload_n 2, 1) := by decide +kernel
theorem dL_crashes_31 : decode cL_crashes 31 = .ok (.iload 5, 2) := by decide +kernel
theorem dL_crashes_33 : decode cL_crashes 33 = .ok (.iconst 1, 1) := by decide +kernel
theorem dL_crashes_34 : decode cL_crashes 34 = .ok (.iadd, 1) := by decide +kernel
theorem dL_crashes_35 : decode cL_crashes 35 = .ok (.iaload, 1) := by decide +kernel
theorem dL_crashes_36 : decode cL_crashes 36 = .ok (.ifCond .ne 33, 3) := by decide +kernel
theorem dL_crashes_39 : decode cL_crashes 39 = .ok (.aload_n 2, 1) := by decide +kernel
theorem dL_crashes_40 : decode cL_crashes 40 = .ok (.iload 5, 2) := by decide +kernel
theorem dL_crashes_42 : decode cL_crashes 42 = .ok (.iconst 3, 1) := by decide +kernel
theorem dL_crashes_43 : decode cL_crashes 43 = .ok (.iadd, 1) := by decide +kernel
theorem dL_crashes_44 : decode cL_crashes 44 = .ok (.dup2, 1) := by decide +kernel
theorem dL_crashes_45 : decode cL_crashes 45 = .ok (.iaload, 1) := by decide +kernel
theorem dL_crashes_46 : decode cL_crashes 46 = .ok (.iconst 1, 1) := by decide +kernel
theorem dL_crashes_47 : decode cL_crashes 47 = .ok (.isub, 1) := by decide +kernel
theorem dL_crashes_48 : decode cL_crashes 48 = .ok (.iastore, 1) := by decide +kernel
theorem dL_crashes_49 : decode cL_crashes 49 = .ok (.aload_n 2, 1) := by decide +kernel
theorem dL_crashes_50 : decode cL_crashes 50 = .ok (.iload 5, 2) := by decide +kernel
theorem dL_crashes_52 : decode cL_crashes 52 = .ok (.iconst 0, 1) := by decide +kernel
theorem dL_crashes_53 : decode cL_crashes 53 = .ok (.iadd, 1) := by decide +kernel
theorem dL_crashes_54 : decode cL_crashes 54 = .ok (.aload_n 2, 1) := by decide +kernel
theorem dL_crashes_55 : decode cL_crashes 55 = .ok (.iload 5, 2) := by decide +kernel
theorem dL_crashes_57 : decode cL_crashes 57 = .ok (.iconst 3, 1) := by decide +kernel
theorem dL_crashes_58 : decode cL_crashes 58 = .ok (.iadd, 1) := by decide +kernel
theorem dL_crashes_59 : decode cL_crashes 59 = .ok (.iaload, 1) := by decide +kernel
theorem dL_crashes_60 : decode cL_crashes 60 = .ok (.ifCond .le 7, 3) := by decide +kernel
theorem dL_crashes_63 : decode cL_crashes 63 = .ok (.iconst 1, 1) := by decide +kernel
theorem dL_crashes_64 : decode cL_crashes 64 = .ok (.goto 4, 3) := by decide +kernel
theorem dL_crashes_67 : decode cL_crashes 67 = .ok (.iconst 0, 1) := by decide +kernel
theorem dL_crashes_68 : decode cL_crashes 68 = .ok (.iastore, 1) := by decide +kernel
theorem dL_crashes_69 : decode cL_crashes 69 = .ok (.aload_n 0, 1) := by decide +kernel
theorem dL_crashes_70 : decode cL_crashes 70 = .ok (.iload 4, 2) := by decide +kernel
theorem dL_crashes_72 : decode cL_crashes 72 = .ok (.iconst 0, 1) := by decide +kernel
theorem dL_crashes_73 : decode cL_crashes 73 = .ok (.invokevirtual 20, 3) := by decide +kernel
theorem dL_crashes_76 : decode cL_crashes 76 = .ok (.istore 7, 2) := by decide +kernel
theorem dL_crashes_78 : decode cL_crashes 78 = .ok (.aload_n 2, 1) := by decide +kernel
theorem dL_crashes_79 : decode cL_crashes 79 = .ok (.iload 5, 2) := by decide +kernel
theorem dL_crashes_81 : decode cL_crashes 81 = .ok (.iconst 0, 1) := by decide +kernel
theorem dL_crashes_82 : decode cL_crashes 82 = .ok (.iadd, 1) := by decide +kernel
theorem dL_crashes_83 : decode cL_crashes 83 = .ok (.iaload, 1) := by decide +kernel
theorem dL_crashes_84 : decode cL_crashes 84 = .ok (.ifCond .ne 155, 3) := by decide +kernel
theorem dL_crashes_87 : decode cL_crashes 87 = .ok (.aload_n 1, 1) := by decide +kernel
theorem dL_crashes_88 : decode cL_crashes 88 = .ok (.iconst 4, 1) := by decide +kernel
theorem dL_crashes_89 : decode cL_crashes 89 = .ok (.iaload, 1) := by decide +kernel
theorem dL_crashes_90 : decode cL_crashes 90 = .ok (.iload 7, 2) := by decide +kernel
theorem dL_crashes_92 : decode cL_crashes 92 = .ok (.irem, 1) := by decide +kernel
theorem dL_crashes_93 : decode cL_crashes 93 = .ok (.aload_n 0, 1) := by decide +kernel
theorem dL_crashes_94 : decode cL_crashes 94 = .ok (.iload 4, 2) := by decide +kernel
theorem dL_crashes_96 : decode cL_crashes 96 = .ok (.iconst 2, 1) := by decide +kernel
theorem dL_crashes_97 : decode cL_crashes 97 = .ok (.invokevirtual 20, 3) := by decide +kernel
theorem dL_crashes_100 : decode cL_crashes 100 = .ok (.iload 7, 2) := by decide +kernel
theorem dL_crashes_102 : decode cL_crashes 102 = .ok (.irem, 1) := by decide +kernel
theorem dL_crashes_103 : decode cL_crashes 103 = .ok (.if_icmp .ne 136, 3) := by decide +kernel
theorem dL_crashes_106 : decode cL_crashes 106 = .ok (.aload_n 1, 1) := by decide +kernel
theorem dL_crashes_107 : decode cL_crashes 107 = .ok (.iconst 4, 1) := by decide +kernel
theorem dL_crashes_108 : decode cL_crashes 108 = .ok (.iaload, 1) := by decide +kernel
theorem dL_crashes_109 : decode cL_crashes 109 = .ok (.aload_n 3, 1) := by decide +kernel
theorem dL_crashes_110 : decode cL_crashes 110 = .ok (.iload 6, 2) := by decide +kernel
theorem dL_crashes_112 : decode cL_crashes 112 = .ok (.iconst 1, 1) := by decide +kernel
theorem dL_crashes_113 : decode cL_crashes 113 = .ok (.iadd, 1) := by decide +kernel
theorem dL_crashes_114 : decode cL_crashes 114 = .ok (.iaload, 1) := by decide +kernel
theorem dL_crashes_115 : decode cL_crashes 115 = .ok (.if_icmp .lt 10, 3) := by decide +kernel
theorem dL_crashes_118 : decode cL_crashes 118 = .ok (.aload_n 3, 1) := by decide +kernel
theorem dL_crashes_119 : decode cL_crashes 119 = .ok (.iload 6, 2) := by decide +kernel
theorem dL_crashes_121 : decode cL_crashes 121 = .ok (.iaload, 1) := by decide +kernel
theorem dL_crashes_122 : decode cL_crashes 122 = .ok (.goto 4, 3) := by decide +kernel
theorem dL_crashes_125 : decode cL_crashes 125 = .ok (.iconst 0, 1) := by decide +kernel
theorem dL_crashes_126 : decode cL_crashes 126 = .ok (.istore 8, 2) := by decide +kernel
theorem dL_crashes_128 : decode cL_crashes 128 = .ok (.iload 8, 2) := by decide +kernel
theorem dL_crashes_130 : decode cL_crashes 130 = .ok (.iconst 5, 1) := by decide +kernel
theorem dL_crashes_131 : decode cL_crashes 131 = .ok (.if_icmp .ne 5, 3) := by decide +kernel
theorem dL_crashes_134 : decode cL_crashes 134 = .ok (.iconst 1, 1) := by decide +kernel
theorem dL_crashes_135 : decode cL_crashes 135 = .ok (.ireturn, 1) := by decide +kernel
theorem dL_crashes_136 : decode cL_crashes 136 = .ok (.aload_n 2, 1) := by decide +kernel
theorem dL_crashes_137 : decode cL_crashes 137 = .ok (.iload 5, 2) := by decide +kernel
theorem dL_crashes_139 : decode cL_crashes 139 = .ok (.iconst 0, 1) := by decide +kernel
theorem dL_crashes_140 : decode cL_crashes 140 = .ok (.iadd, 1) := by decide +kernel
theorem dL_crashes_141 : decode cL_crashes 141 = .ok (.iconst 1, 1) := by decide +kernel
theorem dL_crashes_142 : decode cL_crashes 142 = .ok (.iastore, 1) := by decide +kernel
theorem dL_crashes_143 : decode cL_crashes 143 = .ok (.aload_n 2, 1) := by decide +kernel
theorem dL_crashes_144 : decode cL_crashes 144 = .ok (.iload 5, 2) := by decide +kernel
theorem dL_crashes_146 : decode cL_crashes 146 = .ok (.iconst 1, 1) := by decide +kernel
theorem dL_crashes_147 : decode cL_crashes 147 = .ok (.iadd, 1) := by decide +kernel
theorem dL_crashes_148 : decode cL_crashes 148 = .ok (.iload 8, 2) := by decide +kernel
theorem dL_crashes_150 : decode cL_crashes 150 = .ok (.iconst 1, 1) := by decide +kernel
theorem dL_crashes_151 : decode cL_crashes 151 = .ok (.if_icmp .ne 7, 3) := by decide +kernel
theorem dL_crashes_154 : decode cL_crashes 154 = .ok (.iconst 1, 1) := by decide +kernel
theorem dL_crashes_155 : decode cL_crashes 155 = .ok (.goto 4, 3) := by decide +kernel
theorem dL_crashes_158 : decode cL_crashes 158 = .ok (.iconst 0, 1) := by decide +kernel
theorem dL_crashes_159 : decode cL_crashes 159 = .ok (.iastore, 1) := by decide +kernel
theorem dL_crashes_160 : decode cL_crashes 160 = .ok (.aload_n 2, 1) := by decide +kernel
theorem dL_crashes_161 : decode cL_crashes 161 = .ok (.iload 5, 2) := by decide +kernel
theorem dL_crashes_163 : decode cL_crashes 163 = .ok (.iconst 2, 1) := by decide +kernel
theorem dL_crashes_164 : decode cL_crashes 164 = .ok (.iadd, 1) := by decide +kernel
theorem dL_crashes_165 : decode cL_crashes 165 = .ok (.aload_n 1, 1) := by decide +kernel
theorem dL_crashes_166 : decode cL_crashes 166 = .ok (.iconst 4, 1) := by decide +kernel
theorem dL_crashes_167 : decode cL_crashes 167 = .ok (.iaload, 1) := by decide +kernel
theorem dL_crashes_168 : decode cL_crashes 168 = .ok (.iastore, 1) := by decide +kernel
theorem dL_crashes_169 : decode cL_crashes 169 = .ok (.aload_n 2, 1) := by decide +kernel
theorem dL_crashes_170 : decode cL_crashes 170 = .ok (.iload 5, 2) := by decide +kernel
theorem dL_crashes_172 : decode cL_crashes 172 = .ok (.iconst 3, 1) := by decide +kernel
theorem dL_crashes_173 : decode cL_crashes 173 = .ok (.iadd, 1) := by decide +kernel
theorem dL_crashes_174 : decode cL_crashes 174 = .ok (.iload 8, 2) := by decide +kernel
theorem dL_crashes_176 : decode cL_crashes 176 = .ok (.iconst 1, 1) := by decide +kernel
theorem dL_crashes_177 : decode cL_crashes 177 = .ok (.if_icmp .ne 7, 3) := by decide +kernel
theorem dL_crashes_180 : decode cL_crashes 180 = .ok (.iconst 0, 1) := by decide +kernel
theorem dL_crashes_181 : decode cL_crashes 181 = .ok (.goto 27, 3) := by decide +kernel
theorem dL_crashes_184 : decode cL_crashes 184 = .ok (.aload_n 0, 1) := by decide +kernel
theorem dL_crashes_185 : decode cL_crashes 185 = .ok (.iload 4, 2) := by decide +kernel
theorem dL_crashes_187 : decode cL_crashes 187 = .ok (.iconst 1, 1) := by decide +kernel
theorem dL_crashes_188 : decode cL_crashes 188 = .ok (.invokevirtual 20, 3) := by decide +kernel
theorem dL_crashes_191 : decode cL_crashes 191 = .ok (.iload 8, 2) := by decide +kernel
theorem dL_crashes_193 : decode cL_crashes 193 = .ok (.iconst 2, 1) := by decide +kernel
theorem dL_crashes_194 : decode cL_crashes 194 = .ok (.if_icmp .ne 12, 3) := by decide +kernel
theorem dL_crashes_197 : decode cL_crashes 197 = .ok (.aload_n 3, 1) := by decide +kernel
theorem dL_crashes_198 : decode cL_crashes 198 = .ok (.iload 6, 2) := by decide +kernel
theorem dL_crashes_200 : decode cL_crashes 200 = .ok (.iconst 2, 1) := by decide +kernel
theorem dL_crashes_201 : decode cL_crashes 201 = .ok (.iadd, 1) := by decide +kernel
theorem dL_crashes_202 : decode cL_crashes 202 = .ok (.iaload, 1) := by decide +kernel
theorem dL_crashes_203 : decode cL_crashes 203 = .ok (.goto 4, 3) := by decide +kernel
theorem dL_crashes_206 : decode cL_crashes 206 = .ok (.iconst 0, 1) := by decide +kernel
theorem dL_crashes_207 : decode cL_crashes 207 = .ok (.iadd, 1) := by decide +kernel
theorem dL_crashes_208 : decode cL_crashes 208 = .ok (.iastore, 1) := by decide +kernel
theorem dL_crashes_209 : decode cL_crashes 209 = .ok (.aload_n 2, 1) := by decide +kernel
theorem dL_crashes_210 : decode cL_crashes 210 = .ok (.iload 5, 2) := by decide +kernel
theorem dL_crashes_212 : decode cL_crashes 212 = .ok (.iconst 4, 1) := by decide +kernel
theorem dL_crashes_213 : decode cL_crashes 213 = .ok (.iadd, 1) := by decide +kernel
theorem dL_crashes_214 : decode cL_crashes 214 = .ok (.dup2, 1) := by decide +kernel
theorem dL_crashes_215 : decode cL_crashes 215 = .ok (.iaload, 1) := by decide +kernel
theorem dL_crashes_216 : decode cL_crashes 216 = .ok (.iload 8, 2) := by decide +kernel
theorem dL_crashes_218 : decode cL_crashes 218 = .ok (.iconst 3, 1) := by decide +kernel
theorem dL_crashes_219 : decode cL_crashes 219 = .ok (.if_icmp .ne 7, 3) := by decide +kernel
theorem dL_crashes_222 : decode cL_crashes 222 = .ok (.iconst 0, 1) := by decide +kernel
theorem dL_crashes_223 : decode cL_crashes 223 = .ok (.goto 14, 3) := by decide +kernel
theorem dL_crashes_226 : decode cL_crashes 226 = .ok (.iload 8, 2) := by decide +kernel
theorem dL_crashes_228 : decode cL_crashes 228 = .ok (.iconst 4, 1) := by decide +kernel
theorem dL_crashes_229 : decode cL_crashes 229 = .ok (.if_icmp .ne 7, 3) := by decide +kernel
theorem dL_crashes_232 : decode cL_crashes 232 = .ok (.iconst 2, 1) := by decide +kernel
theorem dL_crashes_233 : decode cL_crashes 233 = .ok (.goto 4, 3) := by decide +kernel
theorem dL_crashes_236 : decode cL_crashes 236 = .ok (.iconst 1, 1) := by decide +kernel
theorem dL_crashes_237 : decode cL_crashes 237 = .ok (.iadd, 1) := by decide +kernel
theorem dL_crashes_238 : decode cL_crashes 238 = .ok (.iastore, 1) := by decide +kernel
theorem dL_crashes_239 : decode cL_crashes 239 = .ok (.aload_n 0, 1) := by decide +kernel
theorem dL_crashes_240 : decode cL_crashes 240 = .ok (.iload 4, 2) := by decide +kernel
theorem dL_crashes_242 : decode cL_crashes 242 = .ok (.bipush 7, 2) := by decide +kernel
theorem dL_crashes_244 : decode cL_crashes 244 = .ok (.invokevirtual 20, 3) := by decide +kernel
theorem dL_crashes_247 : decode cL_crashes 247 = .ok (.istore 8, 2) := by decide +kernel
theorem dL_crashes_249 : decode cL_crashes 249 = .ok (.aload_n 2, 1) := by decide +kernel
theorem dL_crashes_250 : decode cL_crashes 250 = .ok (.iload 5, 2) := by decide +kernel
theorem dL_crashes_252 : decode cL_crashes 252 = .ok (.bipush 6, 2) := by decide +kernel
theorem dL_crashes_254 : decode cL_crashes 254 = .ok (.iadd, 1) := by decide +kernel
theorem dL_crashes_255 : decode cL_crashes 255 = .ok (.aload_n 2, 1) := by decide +kernel
theorem dL_crashes_256 : decode cL_crashes 256 = .ok (.iload 5, 2) := by decide +kernel
theorem dL_crashes_258 : decode cL_crashes 258 = .ok (.iconst 0, 1) := by decide +kernel
theorem dL_crashes_259 : decode cL_crashes 259 = .ok (.iadd, 1) := by decide +kernel
theorem dL_crashes_260 : decode cL_crashes 260 = .ok (.iaload, 1) := by decide +kernel
theorem dL_crashes_261 : decode cL_crashes 261 = .ok (.iconst 1, 1) := by decide +kernel
theorem dL_crashes_262 : decode cL_crashes 262 = .ok (.if_icmp .ne 27, 3) := by decide +kernel
theorem dL_crashes_265 : decode cL_crashes 265 = .ok (.iload 8, 2) := by decide +kernel
theorem dL_crashes_267 : decode cL_crashes 267 = .ok (.ifCond .le 22, 3) := by decide +kernel
theorem dL_crashes_270 : decode cL_crashes 270 = .ok (.aload_n 1, 1) := by decide +kernel
theorem dL_crashes_271 : decode cL_crashes 271 = .ok (.iconst 4, 1) := by decide +kernel
theorem dL_crashes_272 : decode cL_crashes 272 = .ok (.iaload, 1) := by decide +kernel
theorem dL_crashes_273 : decode cL_crashes 273 = .ok (.aload_n 2, 1) := by decide +kernel
theorem dL_crashes_274 : decode cL_crashes 274 = .ok (.iload 5, 2) := by decide +kernel
theorem dL_crashes_276 : decode cL_crashes 276 = .ok (.iconst 2, 1) := by decide +kernel
theorem dL_crashes_277 : decode cL_crashes 277 = .ok (.iadd, 1) := by decide +kernel
theorem dL_crashes_278 : decode cL_crashes 278 = .ok (.iaload, 1) := by decide +kernel
theorem dL_crashes_279 : decode cL_crashes 279 = .ok (.isub, 1) := by decide +kernel
theorem dL_crashes_280 : decode cL_crashes 280 = .ok (.iload 8, 2) := by decide +kernel
theorem dL_crashes_282 : decode cL_crashes 282 = .ok (.if_icmp .le 7, 3) := by decide +kernel
theorem dL_crashes_285 : decode cL_crashes 285 = .ok (.iconst 1, 1) := by decide +kernel
theorem dL_crashes_286 : decode cL_crashes 286 = .ok (.goto 10, 3) := by decide +kernel
theorem dL_crashes_289 : decode cL_crashes 289 = .ok (.aload_n 2, 1) := by decide +kernel
theorem dL_crashes_290 : decode cL_crashes 290 = .ok (.iload 5, 2) := by decide +kernel
theorem dL_crashes_292 : decode cL_crashes 292 = .ok (.bipush 6, 2) := by decide +kernel
theorem dL_crashes_294 : decode cL_crashes 294 = .ok (.iadd, 1) := by decide +kernel
theorem dL_crashes_295 : decode cL_crashes 295 = .ok (.iaload, 1) := by decide +kernel
theorem dL_crashes_296 : decode cL_crashes 296 = .ok (.iastore, 1) := by decide +kernel
theorem dL_crashes_297 : decode cL_crashes 297 = .ok (.iconst 0, 1) := by decide +kernel
theorem dL_crashes_298 : decode cL_crashes 298 = .ok (.ireturn, 1) := by decide +kernel
theorem dL_kicks_0 : decode cL_kicks 0 = .ok (.aload_n 1, 1) := by decide +kernel
theorem dL_kicks_1 : decode cL_kicks 1 = .ok (.bipush 6, 2) := by decide +kernel
theorem dL_kicks_3 : decode cL_kicks 3 = .ok (.dup2, 1) := by decide +kernel
theorem dL_kicks_4 : decode cL_kicks 4 = .ok (.iaload, 1) := by decide +kernel
theorem dL_kicks_5 : decode cL_kicks 5 = .ok (.iconst 1, 1) := by decide +kernel
theorem dL_kicks_6 : decode cL_kicks 6 = .ok (.iadd, 1) := by decide +kernel
theorem dL_kicks_7 : decode cL_kicks 7 = .ok (.iastore, 1) := by decide +kernel
theorem dL_kicks_8 : decode cL_kicks 8 = .ok (.iconst 0, 1) := by decide +kernel
theorem dL_kicks_9 : decode cL_kicks 9 = .ok (.istore 4, 2) := by decide +kernel
theorem dL_kicks_11 : decode cL_kicks 11 = .ok (.iconst 0, 1) := by decide +kernel
theorem dL_kicks_12 : decode cL_kicks 12 = .ok (.istore 5, 2) := by decide +kernel
theorem dL_kicks_14 : decode cL_kicks 14 = .ok (.iload 5, 2) := by decide +kernel
theorem dL_kicks_16 : decode cL_kicks 16 = .ok (.iload_n 3, 1) := by decide +kernel
theorem dL_kicks_17 : decode cL_kicks 17 = .ok (.if_icmp .ge 214, 3) := by decide +kernel
theorem dL_kicks_20 : decode cL_kicks 20 = .ok (.bipush 10, 2) := by decide +kernel
theorem dL_kicks_22 : decode cL_kicks 22 = .ok (.iload 5, 2) := by decide +kernel
theorem dL_kicks_24 : decode cL_kicks 24 = .ok (.imul, 1) := by decide +kernel
theorem dL_kicks_25 : decode cL_kicks 25 = .ok (.istore 6, 2) := by decide +kernel
theorem dL_kicks_27 : decode cL_kicks 27 = .ok (.aload_n 2, 1) := by decide +kernel
theorem dL_kicks_28 : decode cL_kicks 28 = .ok (.iload 6, 2) := by decide +kernel
theorem dL_kicks_30 : decode cL_kicks 30 = .ok (.bipush 7, 2) := by decide +kernel
theorem dL_kicks_32 : decode cL_kicks 32 = .ok (.iadd, 1) := by decide +kernel
theorem dL_kicks_33 : decode cL_kicks 33 = .ok (.iaload, 1) := by decide +kernel
theorem dL_kicks_34 : decode cL_kicks 34 = .ok (.ifCond .ne 179, 3) := by decide +kernel
theorem dL_kicks_37 : decode cL_kicks 37 = .ok (.aload_n 1, 1) := by decide +kernel
theorem dL_kicks_38 : decode cL_kicks 38 = .ok (.bipush 6, 2) := by decide +kernel
theorem dL_kicks_40 : decode cL_kicks 40 = .ok (.iaload, 1) := by decide +kernel
theorem dL_kicks_41 : decode cL_kicks 41 = .ok (.aload_n 0, 1) := by decide +kernel
theorem dL_kicks_42 : decode cL_kicks 42 = .ok (.iload 5, 2) := by decide +kernel
theorem dL_kicks_44 : decode cL_kicks 44 = .ok (.iconst 3, 1) := by decide +kernel
theorem dL_kicks_45 : decode cL_kicks 45 = .ok (.invokevirtual 20, 3) := by decide +kernel
theorem dL_kicks_48 : decode cL_kicks 48 = .ok (.irem, 1) := by decide +kernel
theorem dL_kicks_49 : decode cL_kicks 49 = .ok (.ifCond .ne 164, 3) := by decide +kernel
theorem dL_kicks_52 : decode cL_kicks 52 = .ok (.aload_n 2, 1) := by decide +kernel
theorem dL_kicks_53 : decode cL_kicks 53 = .ok (.iload 6, 2) := by decide +kernel
theorem dL_kicks_55 : decode cL_kicks 55 = .ok (.iconst 4, 1) := by decide +kernel
theorem dL_kicks_56 : decode cL_kicks 56 = .ok (.iadd, 1) := by decide +kernel
theorem dL_kicks_57 : decode cL_kicks 57 = .ok (.iaload, 1) := by decide +kernel
theorem dL_kicks_58 : decode cL_kicks 58 = .ok (.aload_n 0, 1) := by decide +kernel
theorem dL_kicks_59 : decode cL_kicks 59 = .ok (.iload 5, 2) := by decide +kernel
theorem dL_kicks_61 : decode cL_kicks 61 = .ok (.iconst 4, 1) := by decide +kernel
theorem dL_kicks_62 : decode cL_kicks 62 = .ok (.invokevirtual 20, 3) := by decide +kernel
theorem dL_kicks_65 : decode cL_kicks 65 = .ok (.if_icmp .lt 33, 3) := by decide +kernel
theorem dL_kicks_68 : decode cL_kicks 68 = .ok (.aload_n 2, 1) := by decide +kernel
theorem dL_kicks_69 : decode cL_kicks 69 = .ok (.iload 6, 2) := by decide +kernel
theorem dL_kicks_71 : decode cL_kicks 71 = .ok (.iconst 4, 1) := by decide +kernel
theorem dL_kicks_72 : decode cL_kicks 72 = .ok (.iadd, 1) := by decide +kernel
theorem dL_kicks_73 : decode cL_kicks 73 = .ok (.iaload, 1) := by decide +kernel
theorem dL_kicks_74 : decode cL_kicks 74 = .ok (.aload_n 0, 1) := by decide +kernel
theorem dL_kicks_75 : decode cL_kicks 75 = .ok (.iload 5, 2) := by decide +kernel
theorem dL_kicks_77 : decode cL_kicks 77 = .ok (.iconst 5, 1) := by decide +kernel
theorem dL_kicks_78 : decode cL_kicks 78 = .ok (.invokevirtual 20, 3) := by decide +kernel
theorem dL_kicks_81 : decode cL_kicks 81 = .ok (.if_icmp .gt 17, 3) := by decide +kernel
theorem dL_kicks_84 : decode cL_kicks 84 = .ok (.aload_n 2, 1) := by decide +kernel
theorem dL_kicks_85 : decode cL_kicks 85 = .ok (.iload 6, 2) := by decide +kernel
theorem dL_kicks_87 : decode cL_kicks 87 = .ok (.bipush 6, 2) := by decide +kernel
theorem dL_kicks_89 : decode cL_kicks 89 = .ok (.iadd, 1) := by decide +kernel
theorem dL_kicks_90 : decode cL_kicks 90 = .ok (.iaload, 1) := by decide +kernel
theorem dL_kicks_91 : decode cL_kicks 91 = .ok (.ifCond .ne 7, 3) := by decide +kernel
theorem dL_kicks_94 : decode cL_kicks 94 = .ok (.iconst 1, 1) := by decide +kernel
theorem dL_kicks_95 : decode cL_kicks 95 = .ok (.goto 4, 3) := by decide +kernel
theorem dL_kicks_98 : decode cL_kicks 98 = .ok (.iconst 0, 1) := by decide +kernel
theorem dL_kicks_99 : decode cL_kicks 99 = .ok (.istore 7, 2) := by decide +kernel
theorem dL_kicks_101 : decode cL_kicks 101 = .ok (.aload_n 2, 1) := by decide +kernel
theorem dL_kicks_102 : decode cL_kicks 102 = .ok (.iload 6, 2) := by decide +kernel
theorem dL_kicks_104 : decode cL_kicks 104 = .ok (.iconst 5, 1) := by decide +kernel
theorem dL_kicks_105 : decode cL_kicks 105 = .ok (.iadd, 1) := by decide +kernel
theorem dL_kicks_106 : decode cL_kicks 106 = .ok (.iload 7, 2) := by decide +kernel
theorem dL_kicks_108 : decode cL_kicks 108 = .ok (.ifCond .eq 27, 3) := by decide +kernel
theorem dL_kicks_111 : decode cL_kicks 111 = .ok (.aload_n 2, 1) := by decide +kernel
theorem dL_kicks_112 : decode cL_kicks 112 = .ok (.iload 6, 2) := by decide +kernel
theorem dL_kicks_114 : decode cL_kicks 114 = .ok (.iconst 5, 1) := by decide +kernel
theorem dL_kicks_115 : decode cL_kicks 115 = .ok (.iadd, 1) := by decide +kernel
theorem dL_kicks_116 : decode cL_kicks 116 = .ok (.iaload, 1) := by decide +kernel
theorem dL_kicks_117 : decode cL_kicks 117 = .ok (.ifCond .le 14, 3) := by decide +kernel
theorem dL_kicks_120 : decode cL_kicks 120 = .ok (.aload_n 2, 1) := by decide +kernel
theorem dL_kicks_121 : decode cL_kicks 121 = .ok (.iload 6, 2) := by decide +kernel
theorem dL_kicks_123 : decode cL_kicks 123 = .ok (.iconst 5, 1) := by decide +kernel
theorem dL_kicks_124 : decode cL_kicks 124 = .ok (.iadd, 1) := by decide +kernel
theorem dL_kicks_125 : decode cL_kicks 125 = .ok (.iaload, 1) := by decide +kernel
theorem dL_kicks_126 : decode cL_kicks 126 = .ok (.iconst 1, 1) := by decide +kernel
theorem dL_kicks_127 : decode cL_kicks 127 = .ok (.isub, 1) := by decide +kernel
theorem dL_kicks_128 : decode cL_kicks 128 = .ok (.goto 15, 3) := by decide +kernel
theorem dL_kicks_131 : decode cL_kicks 131 = .ok (.iconst 0, 1) := by decide +kernel
theorem dL_kicks_132 : decode cL_kicks 132 = .ok (.goto 11, 3) := by decide +kernel
theorem dL_kicks_135 : decode cL_kicks 135 = .ok (.aload_n 2, 1) := by decide +kernel
theorem dL_kicks_136 : decode cL_kicks 136 = .ok (.iload 6, 2) := by decide +kernel
theorem dL_kicks_138 : decode cL_kicks 138 = .ok (.iconst 5, 1) := by decide +kernel
theorem dL_kicks_139 : decode cL_kicks 139 = .ok (.iadd, 1) := by decide +kernel
theorem dL_kicks_140 : decode cL_kicks 140 = .ok (.iaload, 1) := by decide +kernel
theorem dL_kicks_141 : decode cL_kicks 141 = .ok (.iconst 1, 1) := by decide +kernel
theorem dL_kicks_142 : decode cL_kicks 142 = .ok (.iadd, 1) := by decide +kernel
theorem dL_kicks_143 : decode cL_kicks 143 = .ok (.iastore, 1) := by decide +kernel
theorem dL_kicks_144 : decode cL_kicks 144 = .ok (.aload_n 2, 1) := by decide +kernel
theorem dL_kicks_145 : decode cL_kicks 145 = .ok (.iload 6, 2) := by decide +kernel
theorem dL_kicks_147 : decode cL_kicks 147 = .ok (.bipush 7, 2) := by decide +kernel
theorem dL_kicks_149 : decode cL_kicks 149 = .ok (.iadd, 1) := by decide +kernel
theorem dL_kicks_150 : decode cL_kicks 150 = .ok (.iload 7, 2) := by decide +kernel
theorem dL_kicks_152 : decode cL_kicks 152 = .ok (.ifCond .ne 24, 3) := by decide +kernel
theorem dL_kicks_155 : decode cL_kicks 155 = .ok (.aload_n 2, 1) := by decide +kernel
theorem dL_kicks_156 : decode cL_kicks 156 = .ok (.iload 6, 2) := by decide +kernel
theorem dL_kicks_158 : decode cL_kicks 158 = .ok (.iconst 5, 1) := by decide +kernel
theorem dL_kicks_159 : decode cL_kicks 159 = .ok (.iadd, 1) := by decide +kernel
theorem dL_kicks_160 : decode cL_kicks 160 = .ok (.iaload, 1) := by decide +kernel
theorem dL_kicks_161 : decode cL_kicks 161 = .ok (.aload_n 0, 1) := by decide +kernel
theorem dL_kicks_162 : decode cL_kicks 162 = .ok (.iload 5, 2) := by decide +kernel
theorem dL_kicks_164 : decode cL_kicks 164 = .ok (.bipush 6, 2) := by decide +kernel
theorem dL_kicks_166 : decode cL_kicks 166 = .ok (.invokevirtual 20, 3) := by decide +kernel
theorem dL_kicks_169 : decode cL_kicks 169 = .ok (.if_icmp .le 7, 3) := by decide +kernel
theorem dL_kicks_172 : decode cL_kicks 172 = .ok (.iconst 1, 1) := by decide +kernel
theorem dL_kicks_173 : decode cL_kicks 173 = .ok (.goto 4, 3) := by decide +kernel
theorem dL_kicks_176 : decode cL_kicks 176 = .ok (.iconst 0, 1) := by decide +kernel
theorem dL_kicks_177 : decode cL_kicks 177 = .ok (.iastore, 1) := by decide +kernel
theorem dL_kicks_178 : decode cL_kicks 178 = .ok (.aload_n 2, 1) := by decide +kernel
theorem dL_kicks_179 : decode cL_kicks 179 = .ok (.iload 6, 2) := by decide +kernel
theorem dL_kicks_181 : decode cL_kicks 181 = .ok (.bipush 8, 2) := by decide +kernel
theorem dL_kicks_183 : decode cL_kicks 183 = .ok (.iadd, 1) := by decide +kernel
theorem dL_kicks_184 : decode cL_kicks 184 = .ok (.dup2, 1) := by decide +kernel
theorem dL_kicks_185 : decode cL_kicks 185 = .ok (.iaload, 1) := by decide +kernel
theorem dL_kicks_186 : decode cL_kicks 186 = .ok (.iload 7, 2) := by decide +kernel
theorem dL_kicks_188 : decode cL_kicks 188 = .ok (.ifCond .eq 7, 3) := by decide +kernel
theorem dL_kicks_191 : decode cL_kicks 191 = .ok (.iconst 0, 1) := by decide +kernel
theorem dL_kicks_192 : decode cL_kicks 192 = .ok (.goto 4, 3) := by decide +kernel
theorem dL_kicks_195 : decode cL_kicks 195 = .ok (.iconst 1, 1) := by decide +kernel
theorem dL_kicks_196 : decode cL_kicks 196 = .ok (.iadd, 1) := by decide +kernel
theorem dL_kicks_197 : decode cL_kicks 197 = .ok (.iastore, 1) := by decide +kernel
theorem dL_kicks_198 : decode cL_kicks 198 = .ok (.aload_n 2, 1) := by decide +kernel
theorem dL_kicks_199 : decode cL_kicks 199 = .ok (.iload 6, 2) := by decide +kernel
theorem dL_kicks_201 : decode cL_kicks 201 = .ok (.iconst 4, 1) := by decide +kernel
theorem dL_kicks_202 : decode cL_kicks 202 = .ok (.iadd, 1) := by decide +kernel
theorem dL_kicks_203 : decode cL_kicks 203 = .ok (.iconst 0, 1) := by decide +kernel
theorem dL_kicks_204 : decode cL_kicks 204 = .ok (.iastore, 1) := by decide +kernel
theorem dL_kicks_205 : decode cL_kicks 205 = .ok (.aload_n 2, 1) := by decide +kernel
theorem dL_kicks_206 : decode cL_kicks 206 = .ok (.iload 6, 2) := by decide +kernel
theorem dL_kicks_208 : decode cL_kicks 208 = .ok (.bipush 6, 2) := by decide +kernel
theorem dL_kicks_210 : decode cL_kicks 210 = .ok (.iadd, 1) := by decide +kernel
theorem dL_kicks_211 : decode cL_kicks 211 = .ok (.iconst 0, 1) := by decide +kernel
theorem dL_kicks_212 : decode cL_kicks 212 = .ok (.iastore, 1) := by decide +kernel
theorem dL_kicks_213 : decode cL_kicks 213 = .ok (.iload 4, 2) := by decide +kernel
theorem dL_kicks_215 : decode cL_kicks 215 = .ok (.aload_n 2, 1) := by decide +kernel
theorem dL_kicks_216 : decode cL_kicks 216 = .ok (.iload 6, 2) := by decide +kernel
theorem dL_kicks_218 : decode cL_kicks 218 = .ok (.bipush 7, 2) := by decide +kernel
theorem dL_kicks_220 : decode cL_kicks 220 = .ok (.iadd, 1) := by decide +kernel
theorem dL_kicks_221 : decode cL_kicks 221 = .ok (.iaload, 1) := by decide +kernel
theorem dL_kicks_222 : decode cL_kicks 222 = .ok (.iadd, 1) := by decide +kernel
theorem dL_kicks_223 : decode cL_kicks 223 = .ok (.istore 4, 2) := by decide +kernel
theorem dL_kicks_225 : decode cL_kicks 225 = .ok (.iinc 5 1, 3) := by decide +kernel
theorem dL_kicks_228 : decode cL_kicks 228 = .ok (.goto (-214), 3) := by decide +kernel
theorem dL_kicks_231 : decode cL_kicks 231 = .ok (.aload_n 1, 1) := by decide +kernel
theorem dL_kicks_232 : decode cL_kicks 232 = .ok (.bipush 7, 2) := by decide +kernel
theorem dL_kicks_234 : decode cL_kicks 234 = .ok (.dup2, 1) := by decide +kernel
theorem dL_kicks_235 : decode cL_kicks 235 = .ok (.iaload, 1) := by decide +kernel
theorem dL_kicks_236 : decode cL_kicks 236 = .ok (.iload 4, 2) := by decide +kernel
theorem dL_kicks_238 : decode cL_kicks 238 = .ok (.ifCond .le 7, 3) := by decide +kernel
theorem dL_kicks_241 : decode cL_kicks 241 = .ok (.iconst 1, 1) := by decide +kernel
theorem dL_kicks_242 : decode cL_kicks 242 = .ok (.goto 4, 3) := by decide +kernel
theorem dL_kicks_245 : decode cL_kicks 245 = .ok (.iconst 0, 1) := by decide +kernel
theorem dL_kicks_246 : decode cL_kicks 246 = .ok (.iadd, 1) := by decide +kernel
theorem dL_kicks_247 : decode cL_kicks 247 = .ok (.iastore, 1) := by decide +kernel
theorem dL_kicks_248 : decode cL_kicks 248 = .ok (.aload_n 1, 1) := by decide +kernel
theorem dL_kicks_249 : decode cL_kicks 249 = .ok (.bipush 7, 2) := by decide +kernel
theorem dL_kicks_251 : decode cL_kicks 251 = .ok (.iaload, 1) := by decide +kernel
theorem dL_kicks_252 : decode cL_kicks 252 = .ok (.aload_n 0, 1) := by decide +kernel
theorem dL_kicks_253 : decode cL_kicks 253 = .ok (.bipush 17, 2) := by decide +kernel
theorem dL_kicks_255 : decode cL_kicks 255 = .ok (.invokevirtual 10, 3) := by decide +kernel
theorem dL_kicks_258 : decode cL_kicks 258 = .ok (.if_icmp .gt 19, 3) := by decide +kernel
theorem dL_kicks_261 : decode cL_kicks 261 = .ok (.aload_n 1, 1) := by decide +kernel
theorem dL_kicks_262 : decode cL_kicks 262 = .ok (.iconst 5, 1) := by decide +kernel
theorem dL_kicks_263 : decode cL_kicks 263 = .ok (.iaload, 1) := by decide +kernel
theorem dL_kicks_264 : decode cL_kicks 264 = .ok (.aload_n 0, 1) := by decide +kernel
theorem dL_kicks_265 : decode cL_kicks 265 = .ok (.bipush 16, 2) := by decide +kernel
theorem dL_kicks_267 : decode cL_kicks 267 = .ok (.invokevirtual 10, 3) := by decide +kernel
theorem dL_kicks_270 : decode cL_kicks 270 = .ok (.if_icmp .lt 7, 3) := by decide +kernel
theorem dL_kicks_273 : decode cL_kicks 273 = .ok (.iconst 1, 1) := by decide +kernel
theorem dL_kicks_274 : decode cL_kicks 274 = .ok (.goto 4, 3) := by decide +kernel
theorem dL_kicks_277 : decode cL_kicks 277 = .ok (.iconst 0, 1) := by decide +kernel
theorem dL_kicks_278 : decode cL_kicks 278 = .ok (.ireturn, 1) := by decide +kernel
theorem dL_tick_0 : decode cL_tick 0 = .ok (.aload_n 1, 1) := by decide +kernel
theorem dL_tick_1 : decode cL_tick 1 = .ok (.iconst 0, 1) := by decide +kernel
theorem dL_tick_2 : decode cL_tick 2 = .ok (.iaload, 1) := by decide +kernel
theorem dL_tick_3 : decode cL_tick 3 = .ok (.ifCond .ne 25, 3) := by decide +kernel
theorem dL_tick_6 : decode cL_tick 6 = .ok (.aload_n 1, 1) := by decide +kernel
theorem dL_tick_7 : decode cL_tick 7 = .ok (.iconst 3, 1) := by decide +kernel
theorem dL_tick_8 : decode cL_tick 8 = .ok (.dup2, 1) := by decide +kernel
theorem dL_tick_9 : decode cL_tick 9 = .ok (.iaload, 1) := by decide +kernel
theorem dL_tick_10 : decode cL_tick 10 = .ok (.iconst 1, 1) := by decide +kernel
theorem dL_tick_11 : decode cL_tick 11 = .ok (.isub, 1) := by decide +kernel
theorem dL_tick_12 : decode cL_tick 12 = .ok (.iastore, 1) := by decide +kernel
theorem dL_tick_13 : decode cL_tick 13 = .ok (.aload_n 1, 1) := by decide +kernel
theorem dL_tick_14 : decode cL_tick 14 = .ok (.iconst 0, 1) := by decide +kernel
theorem dL_tick_15 : decode cL_tick 15 = .ok (.aload_n 1, 1) := by decide +kernel
theorem dL_tick_16 : decode cL_tick 16 = .ok (.iconst 3, 1) := by decide +kernel
theorem dL_tick_17 : decode cL_tick 17 = .ok (.iaload, 1) := by decide +kernel
theorem dL_tick_18 : decode cL_tick 18 = .ok (.ifCond .ne 7, 3) := by decide +kernel
theorem dL_tick_21 : decode cL_tick 21 = .ok (.iconst 1, 1) := by decide +kernel
theorem dL_tick_22 : decode cL_tick 22 = .ok (.goto 4, 3) := by decide +kernel
theorem dL_tick_25 : decode cL_tick 25 = .ok (.iconst 0, 1) := by decide +kernel
theorem dL_tick_26 : decode cL_tick 26 = .ok (.iastore, 1) := by decide +kernel
theorem dL_tick_27 : decode cL_tick 27 = .ok (.return_, 1) := by decide +kernel
theorem dL_tick_28 : decode cL_tick 28 = .ok (.aload_n 1, 1) := by decide +kernel
theorem dL_tick_29 : decode cL_tick 29 = .ok (.iconst 0, 1) := by decide +kernel
theorem dL_tick_30 : decode cL_tick 30 = .ok (.iaload, 1) := by decide +kernel
theorem dL_tick_31 : decode cL_tick 31 = .ok (.iconst 2, 1) := by decide +kernel
theorem dL_tick_32 : decode cL_tick 32 = .ok (.if_icmp .ne 4, 3) := by decide +kernel
theorem dL_tick_35 : decode cL_tick 35 = .ok (.return_, 1) := by decide +kernel
theorem dL_tick_36 : decode cL_tick 36 = .ok (.aload_n 1, 1) := by decide +kernel
theorem dL_tick_37 : decode cL_tick 37 = .ok (.iconst 4, 1) := by decide +kernel
theorem dL_tick_38 : decode cL_tick 38 = .ok (.dup2, 1) := by decide +kernel
theorem dL_tick_39 : decode cL_tick 39 = .ok (.iaload, 1) := by decide +kernel
theorem dL_tick_40 : decode cL_tick 40 = .ok (.iconst 1, 1) := by decide +kernel
theorem dL_tick_41 : decode cL_tick 41 = .ok (.iadd, 1) := by decide +kernel
theorem dL_tick_42 : decode cL_tick 42 = .ok (.iastore, 1) := by decide +kernel
theorem dL_tick_43 : decode cL_tick 43 = .ok (.aload_n 1, 1) := by decide +kernel
theorem dL_tick_44 : decode cL_tick 44 = .ok (.iconst 5, 1) := by decide +kernel
theorem dL_tick_45 : decode cL_tick 45 = .ok (.dup2, 1) := by decide +kernel
theorem dL_tick_46 : decode cL_tick 46 = .ok (.iaload, 1) := by decide +kernel
theorem dL_tick_47 : decode cL_tick 47 = .ok (.iconst 1, 1) := by decide +kernel
theorem dL_tick_48 : decode cL_tick 48 = .ok (.iadd, 1) := by decide +kernel
theorem dL_tick_49 : decode cL_tick 49 = .ok (.iastore, 1) := by decide +kernel
theorem dL_tick_50 : decode cL_tick 50 = .ok (.iconst 0, 1) := by decide +kernel
theorem dL_tick_51 : decode cL_tick 51 = .ok (.istore 6, 2) := by decide +kernel
theorem dL_tick_53 : decode cL_tick 53 = .ok (.iload 6, 2) := by decide +kernel
theorem dL_tick_55 : decode cL_tick 55 = .ok (.iload 4, 2) := by decide +kernel
theorem dL_tick_57 : decode cL_tick 57 = .ok (.if_icmp .ge 33, 3) := by decide +kernel
theorem dL_tick_60 : decode cL_tick 60 = .ok (.aload_n 0, 1) := by decide +kernel
theorem dL_tick_61 : decode cL_tick 61 = .ok (.aload_n 1, 1) := by decide +kernel
theorem dL_tick_62 : decode cL_tick 62 = .ok (.aload_n 2, 1) := by decide +kernel
theorem dL_tick_63 : decode cL_tick 63 = .ok (.aload_n 3, 1) := by decide +kernel
theorem dL_tick_64 : decode cL_tick 64 = .ok (.iload 6, 2) := by decide +kernel
theorem dL_tick_66 : decode cL_tick 66 = .ok (.invokestatic 24, 3) := by decide +kernel
theorem dL_tick_69 : decode cL_tick 69 = .ok (.ifCond .eq 15, 3) := by decide +kernel
theorem dL_tick_72 : decode cL_tick 72 = .ok (.aload_n 0, 1) := by decide +kernel
theorem dL_tick_73 : decode cL_tick 73 = .ok (.aload_n 1, 1) := by decide +kernel
theorem dL_tick_74 : decode cL_tick 74 = .ok (.aload_n 2, 1) := by decide +kernel
theorem dL_tick_75 : decode cL_tick 75 = .ok (.iconst 3, 1) := by decide +kernel
theorem dL_tick_76 : decode cL_tick 76 = .ok (.iload 6, 2) := by decide +kernel
theorem dL_tick_78 : decode cL_tick 78 = .ok (.iload 5, 2) := by decide +kernel
theorem dL_tick_80 : decode cL_tick 80 = .ok (.invokestatic 28, 3) := by decide +kernel
theorem dL_tick_83 : decode cL_tick 83 = .ok (.return_, 1) := by decide +kernel
theorem dL_tick_84 : decode cL_tick 84 = .ok (.iinc 6 1, 3) := by decide +kernel
theorem dL_tick_87 : decode cL_tick 87 = .ok (.goto (-34), 3) := by decide +kernel
theorem dL_tick_90 : decode cL_tick 90 = .ok (.aload_n 1, 1) := by decide +kernel
theorem dL_tick_91 : decode cL_tick 91 = .ok (.iconst 4, 1) := by decide +kernel
theorem dL_tick_92 : decode cL_tick 92 = .ok (.iaload, 1) := by decide +kernel
theorem dL_tick_93 : decode cL_tick 93 = .ok (.aload_n 0, 1) := by decide +kernel
theorem dL_tick_94 : decode cL_tick 94 = .ok (.bipush 15, 2) := by decide +kernel
theorem dL_tick_96 : decode cL_tick 96 = .ok (.invokevirtual 10, 3) := by decide +kernel
theorem dL_tick_99 : decode cL_tick 99 = .ok (.irem, 1) := by decide +kernel
theorem dL_tick_100 : decode cL_tick 100 = .ok (.ifCond .ne 18, 3) := by decide +kernel
theorem dL_tick_103 : decode cL_tick 103 = .ok (.aload_n 0, 1) := by decide +kernel
theorem dL_tick_104 : decode cL_tick 104 = .ok (.aload_n 1, 1) := by decide +kernel
theorem dL_tick_105 : decode cL_tick 105 = .ok (.aload_n 2, 1) := by decide +kernel
theorem dL_tick_106 : decode cL_tick 106 = .ok (.iload 4, 2) := by decide +kernel
theorem dL_tick_108 : decode cL_tick 108 = .ok (.invokestatic 32, 3) := by decide +kernel
theorem dL_tick_111 : decode cL_tick 111 = .ok (.ifCond .eq 7, 3) := by decide +kernel
theorem dL_tick_114 : decode cL_tick 114 = .ok (.iconst 1, 1) := by decide +kernel
theorem dL_tick_115 : decode cL_tick 115 = .ok (.goto 4, 3) := by decide +kernel
theorem dL_tick_118 : decode cL_tick 118 = .ok (.iconst 0, 1) := by decide +kernel
theorem dL_tick_119 : decode cL_tick 119 = .ok (.istore 6, 2) := by decide +kernel
theorem dL_tick_121 : decode cL_tick 121 = .ok (.iload 6, 2) := by decide +kernel
theorem dL_tick_123 : decode cL_tick 123 = .ok (.ifCond .eq 29, 3) := by decide +kernel
theorem dL_tick_126 : decode cL_tick 126 = .ok (.aload_n 1, 1) := by decide +kernel
theorem dL_tick_127 : decode cL_tick 127 = .ok (.iconst 5, 1) := by decide +kernel
theorem dL_tick_128 : decode cL_tick 128 = .ok (.iaload, 1) := by decide +kernel
theorem dL_tick_129 : decode cL_tick 129 = .ok (.aload_n 0, 1) := by decide +kernel
theorem dL_tick_130 : decode cL_tick 130 = .ok (.bipush 13, 2) := by decide +kernel
theorem dL_tick_132 : decode cL_tick 132 = .ok (.invokevirtual 10, 3) := by decide +kernel
theorem dL_tick_135 : decode cL_tick 135 = .ok (.if_icmp .ge 17, 3) := by decide +kernel
theorem dL_tick_138 : decode cL_tick 138 = .ok (.aload_n 0, 1) := by decide +kernel
theorem dL_tick_139 : decode cL_tick 139 = .ok (.aload_n 1, 1) := by decide +kernel
theorem dL_tick_140 : decode cL_tick 140 = .ok (.aload_n 2, 1) := by decide +kernel
theorem dL_tick_141 : decode cL_tick 141 = .ok (.iconst 1, 1) := by decide +kernel
theorem dL_tick_142 : decode cL_tick 142 = .ok (.bipush (-6), 2) := by decide +kernel
theorem dL_tick_144 : decode cL_tick 144 = .ok (.iload 5, 2) := by decide +kernel
theorem dL_tick_146 : decode cL_tick 146 = .ok (.invokestatic 28, 3) := by decide +kernel
theorem dL_tick_149 : decode cL_tick 149 = .ok (.goto 71, 3) := by decide +kernel
theorem dL_tick_152 : decode cL_tick 152 = .ok (.iload 6, 2) := by decide +kernel
theorem dL_tick_154 : decode cL_tick 154 = .ok (.ifCond .ne 29, 3) := by decide +kernel
theorem dL_tick_157 : decode cL_tick 157 = .ok (.aload_n 1, 1) := by decide +kernel
theorem dL_tick_158 : decode cL_tick 158 = .ok (.iconst 5, 1) := by decide +kernel
theorem dL_tick_159 : decode cL_tick 159 = .ok (.iaload, 1) := by decide +kernel
theorem dL_tick_160 : decode cL_tick 160 = .ok (.aload_n 0, 1) := by decide +kernel
theorem dL_tick_161 : decode cL_tick 161 = .ok (.bipush 14, 2) := by decide +kernel
theorem dL_tick_163 : decode cL_tick 163 = .ok (.invokevirtual 10, 3) := by decide +kernel
theorem dL_tick_166 : decode cL_tick 166 = .ok (.if_icmp .le 17, 3) := by decide +kernel
theorem dL_tick_169 : decode cL_tick 169 = .ok (.aload_n 0, 1) := by decide +kernel
theorem dL_tick_170 : decode cL_tick 170 = .ok (.aload_n 1, 1) := by decide +kernel
theorem dL_tick_171 : decode cL_tick 171 = .ok (.aload_n 2, 1) := by decide +kernel
theorem dL_tick_172 : decode cL_tick 172 = .ok (.iconst 2, 1) := by decide +kernel
theorem dL_tick_173 : decode cL_tick 173 = .ok (.bipush (-6), 2) := by decide +kernel
theorem dL_tick_175 : decode cL_tick 175 = .ok (.iload 5, 2) := by decide +kernel
theorem dL_tick_177 : decode cL_tick 177 = .ok (.invokestatic 28, 3) := by decide +kernel
theorem dL_tick_180 : decode cL_tick 180 = .ok (.goto 40, 3) := by decide +kernel
theorem dL_tick_183 : decode cL_tick 183 = .ok (.aload_n 1, 1) := by decide +kernel
theorem dL_tick_184 : decode cL_tick 184 = .ok (.iconst 5, 1) := by decide +kernel
theorem dL_tick_185 : decode cL_tick 185 = .ok (.iload 6, 2) := by decide +kernel
theorem dL_tick_187 : decode cL_tick 187 = .ok (.ifCond .eq 7, 3) := by decide +kernel
theorem dL_tick_190 : decode cL_tick 190 = .ok (.iconst 0, 1) := by decide +kernel
theorem dL_tick_191 : decode cL_tick 191 = .ok (.goto 6, 3) := by decide +kernel
theorem dL_tick_194 : decode cL_tick 194 = .ok (.aload_n 1, 1) := by decide +kernel
theorem dL_tick_195 : decode cL_tick 195 = .ok (.iconst 5, 1) := by decide +kernel
theorem dL_tick_196 : decode cL_tick 196 = .ok (.iaload, 1) := by decide +kernel
theorem dL_tick_197 : decode cL_tick 197 = .ok (.iastore, 1) := by decide +kernel
theorem dL_tick_198 : decode cL_tick 198 = .ok (.aload_n 1, 1) := by decide +kernel
theorem dL_tick_199 : decode cL_tick 199 = .ok (.iconst 2, 1) := by decide +kernel
theorem dL_tick_200 : decode cL_tick 200 = .ok (.aload_n 1, 1) := by decide +kernel
theorem dL_tick_201 : decode cL_tick 201 = .ok (.iconst 4, 1) := by decide +kernel
theorem dL_tick_202 : decode cL_tick 202 = .ok (.iaload, 1) := by decide +kernel
theorem dL_tick_203 : decode cL_tick 203 = .ok (.aload_n 0, 1) := by decide +kernel
theorem dL_tick_204 : decode cL_tick 204 = .ok (.bipush 19, 2) := by decide +kernel
theorem dL_tick_206 : decode cL_tick 206 = .ok (.invokevirtual 10, 3) := by decide +kernel
theorem dL_tick_209 : decode cL_tick 209 = .ok (.if_icmp .ne 7, 3) := by decide +kernel
theorem dL_tick_212 : decode cL_tick 212 = .ok (.iconst 0, 1) := by decide +kernel
theorem dL_tick_213 : decode cL_tick 213 = .ok (.goto 6, 3) := by decide +kernel
theorem dL_tick_216 : decode cL_tick 216 = .ok (.aload_n 1, 1) := by decide +kernel
theorem dL_tick_217 : decode cL_tick 217 = .ok (.iconst 2, 1) := by decide +kernel
theorem dL_tick_218 : decode cL_tick 218 = .ok (.iaload, 1) := by decide +kernel
theorem dL_tick_219 : decode cL_tick 219 = .ok (.iastore, 1) := by decide +kernel
theorem dL_tick_220 : decode cL_tick 220 = .ok (.return_, 1) := by decide +kernel
theorem dL_isTold_0 : decode cL_isTold 0 = .ok (.iconst 0, 1) := by decide +kernel
theorem dL_isTold_1 : decode cL_isTold 1 = .ok (.istore 4, 2) := by decide +kernel
theorem dL_isTold_3 : decode cL_isTold 3 = .ok (.iconst 0, 1) := by decide +kernel
theorem dL_isTold_4 : decode cL_isTold 4 = .ok (.istore 5, 2) := by decide +kernel
theorem dL_isTold_6 : decode cL_isTold 6 = .ok (.iload 5, 2) := by decide +kernel
theorem dL_isTold_8 : decode cL_isTold 8 = .ok (.iload_n 3, 1) := by decide +kernel
theorem dL_isTold_9 : decode cL_isTold 9 = .ok (.if_icmp .ge 216, 3) := by decide +kernel
theorem dL_isTold_12 : decode cL_isTold 12 = .ok (.bipush 10, 2) := by decide +kernel
theorem dL_isTold_14 : decode cL_isTold 14 = .ok (.iload 5, 2) := by decide +kernel
theorem dL_isTold_16 : decode cL_isTold 16 = .ok (.imul, 1) := by decide +kernel
theorem dL_isTold_17 : decode cL_isTold 17 = .ok (.istore 6, 2) := by decide +kernel
theorem dL_isTold_19 : decode cL_isTold 19 = .ok (.iload 4, 2) := by decide +kernel
theorem dL_isTold_21 : decode cL_isTold 21 = .ok (.aload_n 2, 1) := by decide +kernel
theorem dL_isTold_22 : decode cL_isTold 22 = .ok (.iload 6, 2) := by decide +kernel
theorem dL_isTold_24 : decode cL_isTold 24 = .ok (.bipush 7, 2) := by decide +kernel
theorem dL_isTold_26 : decode cL_isTold 26 = .ok (.iadd, 1) := by decide +kernel
theorem dL_isTold_27 : decode cL_isTold 27 = .ok (.iaload, 1) := by decide +kernel
theorem dL_isTold_28 : decode cL_isTold 28 = .ok (.iload 5, 2) := by decide +kernel
theorem dL_isTold_30 : decode cL_isTold 30 = .ok (.ishl, 1) := by decide +kernel
theorem dL_isTold_31 : decode cL_isTold 31 = .ok (.ior, 1) := by decide +kernel
theorem dL_isTold_32 : decode cL_isTold 32 = .ok (.istore 4, 2) := by decide +kernel
theorem dL_isTold_34 : decode cL_isTold 34 = .ok (.aload_n 0, 1) := by decide +kernel
theorem dL_isTold_35 : decode cL_isTold 35 = .ok (.iload 5, 2) := by decide +kernel
theorem dL_isTold_37 : decode cL_isTold 37 = .ok (.bipush 8, 2) := by decide +kernel
theorem dL_isTold_39 : decode cL_isTold 39 = .ok (.invokevirtual 20, 3) := by decide +kernel
theorem dL_isTold_42 : decode cL_isTold 42 = .ok (.aload_n 2, 1) := by decide +kernel
theorem dL_isTold_43 : decode cL_isTold 43 = .ok (.iload 6, 2) := by decide +kernel
theorem dL_isTold_45 : decode cL_isTold 45 = .ok (.iconst 0, 1) := by decide +kernel
theorem dL_isTold_46 : decode cL_isTold 46 = .ok (.iadd, 1) := by decide +kernel
theorem dL_isTold_47 : decode cL_isTold 47 = .ok (.iaload, 1) := by decide +kernel
theorem dL_isTold_48 : decode cL_isTold 48 = .ok (.if_icmp .ne 169, 3) := by decide +kernel
theorem dL_isTold_51 : decode cL_isTold 51 = .ok (.aload_n 0, 1) := by decide +kernel
theorem dL_isTold_52 : decode cL_isTold 52 = .ok (.iload 5, 2) := by decide +kernel
theorem dL_isTold_54 : decode cL_isTold 54 = .ok (.bipush 9, 2) := by decide +kernel
theorem dL_isTold_56 : decode cL_isTold 56 = .ok (.invokevirtual 20, 3) := by decide +kernel
theorem dL_isTold_59 : decode cL_isTold 59 = .ok (.aload_n 2, 1) := by decide +kernel
theorem dL_isTold_60 : decode cL_isTold 60 = .ok (.iload 6, 2) := by decide +kernel
theorem dL_isTold_62 : decode cL_isTold 62 = .ok (.iconst 3, 1) := by decide +kernel
theorem dL_isTold_63 : decode cL_isTold 63 = .ok (.iadd, 1) := by decide +kernel
theorem dL_isTold_64 : decode cL_isTold 64 = .ok (.iaload, 1) := by decide +kernel
theorem dL_isTold_65 : decode cL_isTold 65 = .ok (.iconst 1, 1) := by decide +kernel
theorem dL_isTold_66 : decode cL_isTold 66 = .ok (.aload_n 2, 1) := by decide +kernel
theorem dL_isTold_67 : decode cL_isTold 67 = .ok (.iload 6, 2) := by decide +kernel
theorem dL_isTold_69 : decode cL_isTold 69 = .ok (.iconst 1, 1) := by decide +kernel
theorem dL_isTold_70 : decode cL_isTold 70 = .ok (.iadd, 1) := by decide +kernel
theorem dL_isTold_71 : decode cL_isTold 71 = .ok (.iaload, 1) := by decide +kernel
theorem dL_isTold_72 : decode cL_isTold 72 = .ok (.isub, 1) := by decide +kernel
theorem dL_isTold_73 : decode cL_isTold 73 = .ok (.imul, 1) := by decide +kernel
theorem dL_isTold_74 : decode cL_isTold 74 = .ok (.if_icmp .ne 143, 3) := by decide +kernel
theorem dL_isTold_77 : decode cL_isTold 77 = .ok (.aload_n 0, 1) := by decide +kernel
theorem dL_isTold_78 : decode cL_isTold 78 = .ok (.iload 5, 2) := by decide +kernel
theorem dL_isTold_80 : decode cL_isTold 80 = .ok (.bipush 10, 2) := by decide +kernel
theorem dL_isTold_82 : decode cL_isTold 82 = .ok (.invokevirtual 20, 3) := by decide +kernel
theorem dL_isTold_85 : decode cL_isTold 85 = .ok (.aload_n 2, 1) := by decide +kernel
theorem dL_isTold_86 : decode cL_isTold 86 = .ok (.iload 6, 2) := by decide +kernel
theorem dL_isTold_88 : decode cL_isTold 88 = .ok (.iconst 4, 1) := by decide +kernel
theorem dL_isTold_89 : decode cL_isTold 89 = .ok (.iadd, 1) := by decide +kernel
theorem dL_isTold_90 : decode cL_isTold 90 = .ok (.iaload, 1) := by decide +kernel
theorem dL_isTold_91 : decode cL_isTold 91 = .ok (.if_icmp .ne 126, 3) := by decide +kernel
theorem dL_isTold_94 : decode cL_isTold 94 = .ok (.aload_n 0, 1) := by decide +kernel
theorem dL_isTold_95 : decode cL_isTold 95 = .ok (.iload 5, 2) := by decide +kernel
theorem dL_isTold_97 : decode cL_isTold 97 = .ok (.bipush 11, 2) := by decide +kernel
theorem dL_isTold_99 : decode cL_isTold 99 = .ok (.invokevirtual 20, 3) := by decide +kernel
theorem dL_isTold_102 : decode cL_isTold 102 = .ok (.aload_n 2, 1) := by decide +kernel
theorem dL_isTold_103 : decode cL_isTold 103 = .ok (.iload 6, 2) := by decide +kernel
theorem dL_isTold_105 : decode cL_isTold 105 = .ok (.iconst 5, 1) := by decide +kernel
theorem dL_isTold_106 : decode cL_isTold 106 = .ok (.iadd, 1) := by decide +kernel
theorem dL_isTold_107 : decode cL_isTold 107 = .ok (.iaload, 1) := by decide +kernel
theorem dL_isTold_108 : decode cL_isTold 108 = .ok (.if_icmp .ne 109, 3) := by decide +kernel
theorem dL_isTold_111 : decode cL_isTold 111 = .ok (.aload_n 0, 1) := by decide +kernel
theorem dL_isTold_112 : decode cL_isTold 112 = .ok (.iload 5, 2) := by decide +kernel
theorem dL_isTold_114 : decode cL_isTold 114 = .ok (.bipush 12, 2) := by decide +kernel
theorem dL_isTold_116 : decode cL_isTold 116 = .ok (.invokevirtual 20, 3) := by decide +kernel
theorem dL_isTold_119 : decode cL_isTold 119 = .ok (.aload_n 2, 1) := by decide +kernel
theorem dL_isTold_120 : decode cL_isTold 120 = .ok (.iload 6, 2) := by decide +kernel
theorem dL_isTold_122 : decode cL_isTold 122 = .ok (.bipush 6, 2) := by decide +kernel
theorem dL_isTold_124 : decode cL_isTold 124 = .ok (.iadd, 1) := by decide +kernel
theorem dL_isTold_125 : decode cL_isTold 125 = .ok (.iaload, 1) := by decide +kernel
theorem dL_isTold_126 : decode cL_isTold 126 = .ok (.if_icmp .ne 91, 3) := by decide +kernel
theorem dL_isTold_129 : decode cL_isTold 129 = .ok (.aload_n 0, 1) := by decide +kernel
theorem dL_isTold_130 : decode cL_isTold 130 = .ok (.iload 5, 2) := by decide +kernel
theorem dL_isTold_132 : decode cL_isTold 132 = .ok (.bipush 13, 2) := by decide +kernel
theorem dL_isTold_134 : decode cL_isTold 134 = .ok (.invokevirtual 20, 3) := by decide +kernel
theorem dL_isTold_137 : decode cL_isTold 137 = .ok (.aload_n 2, 1) := by decide +kernel
theorem dL_isTold_138 : decode cL_isTold 138 = .ok (.iload 6, 2) := by decide +kernel
theorem dL_isTold_140 : decode cL_isTold 140 = .ok (.bipush 7, 2) := by decide +kernel
theorem dL_isTold_142 : decode cL_isTold 142 = .ok (.iadd, 1) := by decide +kernel
theorem dL_isTold_143 : decode cL_isTold 143 = .ok (.iaload, 1) := by decide +kernel
theorem dL_isTold_144 : decode cL_isTold 144 = .ok (.if_icmp .ne 73, 3) := by decide +kernel
theorem dL_isTold_147 : decode cL_isTold 147 = .ok (.aload_n 0, 1) := by decide +kernel
theorem dL_isTold_148 : decode cL_isTold 148 = .ok (.iload 5, 2) := by decide +kernel
theorem dL_isTold_150 : decode cL_isTold 150 = .ok (.bipush 16, 2) := by decide +kernel
theorem dL_isTold_152 : decode cL_isTold 152 = .ok (.invokevirtual 20, 3) := by decide +kernel
theorem dL_isTold_155 : decode cL_isTold 155 = .ok (.aload_n 2, 1) := by decide +kernel
theorem dL_isTold_156 : decode cL_isTold 156 = .ok (.iload 6, 2) := by decide +kernel
theorem dL_isTold_158 : decode cL_isTold 158 = .ok (.bipush 8, 2) := by decide +kernel
theorem dL_isTold_160 : decode cL_isTold 160 = .ok (.iadd, 1) := by decide +kernel
theorem dL_isTold_161 : decode cL_isTold 161 = .ok (.iaload, 1) := by decide +kernel
theorem dL_isTold_162 : decode cL_isTold 162 = .ok (.if_icmp .ne 55, 3) := by decide +kernel
theorem dL_isTold_165 : decode cL_isTold 165 = .ok (.aload_n 0, 1) := by decide +kernel
theorem dL_isTold_166 : decode cL_isTold 166 = .ok (.iload 5, 2) := by decide +kernel
theorem dL_isTold_168 : decode cL_isTold 168 = .ok (.bipush 18, 2) := by decide +kernel
theorem dL_isTold_170 : decode cL_isTold 170 = .ok (.invokevirtual 20, 3) := by decide +kernel
theorem dL_isTold_173 : decode cL_isTold 173 = .ok (.aload_n 2, 1) := by decide +kernel
theorem dL_isTold_174 : decode cL_isTold 174 = .ok (.iload 6, 2) := by decide +kernel
theorem dL_isTold_176 : decode cL_isTold 176 = .ok (.bipush 9, 2) := by decide +kernel
theorem dL_isTold_178 : decode cL_isTold 178 = .ok (.iadd, 1) := by decide +kernel
theorem dL_isTold_179 : decode cL_isTold 179 = .ok (.iaload, 1) := by decide +kernel
theorem dL_isTold_180 : decode cL_isTold 180 = .ok (.if_icmp .ne 37, 3) := by decide +kernel
theorem dL_isTold_183 : decode cL_isTold 183 = .ok (.aload_n 0, 1) := by decide +kernel
theorem dL_isTold_184 : decode cL_isTold 184 = .ok (.iload 5, 2) := by decide +kernel
theorem dL_isTold_186 : decode cL_isTold 186 = .ok (.bipush 17, 2) := by decide +kernel
theorem dL_isTold_188 : decode cL_isTold 188 = .ok (.invokevirtual 20, 3) := by decide +kernel
theorem dL_isTold_191 : decode cL_isTold 191 = .ok (.ifCond .ge 7, 3) := by decide +kernel
theorem dL_isTold_194 : decode cL_isTold 194 = .ok (.iconst 1, 1) := by decide +kernel
theorem dL_isTold_195 : decode cL_isTold 195 = .ok (.goto 4, 3) := by decide +kernel
theorem dL_isTold_198 : decode cL_isTold 198 = .ok (.iconst 0, 1) := by decide +kernel
theorem dL_isTold_199 : decode cL_isTold 199 = .ok (.aload_n 2, 1) := by decide +kernel
theorem dL_isTold_200 : decode cL_isTold 200 = .ok (.iload 6, 2) := by decide +kernel
theorem dL_isTold_202 : decode cL_isTold 202 = .ok (.bipush 8, 2) := by decide +kernel
theorem dL_isTold_204 : decode cL_isTold 204 = .ok (.iadd, 1) := by decide +kernel
theorem dL_isTold_205 : decode cL_isTold 205 = .ok (.iaload, 1) := by decide +kernel
theorem dL_isTold_206 : decode cL_isTold 206 = .ok (.ifCond .ne 7, 3) := by decide +kernel
theorem dL_isTold_209 : decode cL_isTold 209 = .ok (.iconst 1, 1) := by decide +kernel
theorem dL_isTold_210 : decode cL_isTold 210 = .ok (.goto 4, 3) := by decide +kernel
theorem dL_isTold_213 : decode cL_isTold 213 = .ok (.iconst 0, 1) := by decide +kernel
theorem dL_isTold_214 : decode cL_isTold 214 = .ok (.if_icmp .eq 5, 3) := by decide +kernel
theorem dL_isTold_217 : decode cL_isTold 217 = .ok (.iconst 0, 1) := by decide +kernel
theorem dL_isTold_218 : decode cL_isTold 218 = .ok (.ireturn, 1) := by decide +kernel
theorem dL_isTold_219 : decode cL_isTold 219 = .ok (.iinc 5 1, 3) := by decide +kernel
theorem dL_isTold_222 : decode cL_isTold 222 = .ok (.goto (-216), 3) := by decide +kernel
theorem dL_isTold_225 : decode cL_isTold 225 = .ok (.aload_n 1, 1) := by decide +kernel
theorem dL_isTold_226 : decode cL_isTold 226 = .ok (.bipush 8, 2) := by decide +kernel
theorem dL_isTold_228 : decode cL_isTold 228 = .ok (.iaload, 1) := by decide +kernel
theorem dL_isTold_229 : decode cL_isTold 229 = .ok (.iconst 1, 1) := by decide +kernel
theorem dL_isTold_230 : decode cL_isTold 230 = .ok (.isub, 1) := by decide +kernel
theorem dL_isTold_231 : decode cL_isTold 231 = .ok (.istore 5, 2) := by decide +kernel
theorem dL_isTold_233 : decode cL_isTold 233 = .ok (.iload 5, 2) := by decide +kernel
theorem dL_isTold_235 : decode cL_isTold 235 = .ok (.ifCond .lt 75, 3) := by decide +kernel
theorem dL_isTold_238 : decode cL_isTold 238 = .ok (.aload_n 0, 1) := by decide +kernel
theorem dL_isTold_239 : decode cL_isTold 239 = .ok (.iload 5, 2) := by decide +kernel
theorem dL_isTold_241 : decode cL_isTold 241 = .ok (.iconst 0, 1) := by decide +kernel
theorem dL_isTold_242 : decode cL_isTold 242 = .ok (.invokevirtual 36, 3) := by decide +kernel
theorem dL_isTold_245 : decode cL_isTold 245 = .ok (.aload_n 1, 1) := by decide +kernel
theorem dL_isTold_246 : decode cL_isTold 246 = .ok (.bipush 9, 2) := by decide +kernel
theorem dL_isTold_248 : decode cL_isTold 248 = .ok (.iaload, 1) := by decide +kernel
theorem dL_isTold_249 : decode cL_isTold 249 = .ok (.if_icmp .ne 59, 3) := by decide +kernel
theorem dL_isTold_252 : decode cL_isTold 252 = .ok (.aload_n 0, 1) := by decide +kernel
theorem dL_isTold_253 : decode cL_isTold 253 = .ok (.iload 5, 2) := by decide +kernel
theorem dL_isTold_255 : decode cL_isTold 255 = .ok (.iconst 1, 1) := by decide +kernel
theorem dL_isTold_256 : decode cL_isTold 256 = .ok (.invokevirtual 36, 3) := by decide +kernel
theorem dL_isTold_259 : decode cL_isTold 259 = .ok (.aload_n 1, 1) := by decide +kernel
theorem dL_isTold_260 : decode cL_isTold 260 = .ok (.bipush 10, 2) := by decide +kernel
theorem dL_isTold_262 : decode cL_isTold 262 = .ok (.iaload, 1) := by decide +kernel
theorem dL_isTold_263 : decode cL_isTold 263 = .ok (.if_icmp .ne 45, 3) := by decide +kernel
theorem dL_isTold_266 : decode cL_isTold 266 = .ok (.aload_n 0, 1) := by decide +kernel
theorem dL_isTold_267 : decode cL_isTold 267 = .ok (.iload 5, 2) := by decide +kernel
theorem dL_isTold_269 : decode cL_isTold 269 = .ok (.iconst 2, 1) := by decide +kernel
theorem dL_isTold_270 : decode cL_isTold 270 = .ok (.invokevirtual 36, 3) := by decide +kernel
theorem dL_isTold_273 : decode cL_isTold 273 = .ok (.aload_n 1, 1) := by decide +kernel
theorem dL_isTold_274 : decode cL_isTold 274 = .ok (.bipush 11, 2) := by decide +kernel
theorem dL_isTold_276 : decode cL_isTold 276 = .ok (.iaload, 1) := by decide +kernel
theorem dL_isTold_277 : decode cL_isTold 277 = .ok (.if_icmp .ne 31, 3) := by decide +kernel
theorem dL_isTold_280 : decode cL_isTold 280 = .ok (.aload_n 0, 1) := by decide +kernel
theorem dL_isTold_281 : decode cL_isTold 281 = .ok (.iload 5, 2) := by decide +kernel
theorem dL_isTold_283 : decode cL_isTold 283 = .ok (.iconst 3, 1) := by decide +kernel
theorem dL_isTold_284 : decode cL_isTold 284 = .ok (.invokevirtual 36, 3) := by decide +kernel
theorem dL_isTold_287 : decode cL_isTold 287 = .ok (.aload_n 1, 1) := by decide +kernel
theorem dL_isTold_288 : decode cL_isTold 288 = .ok (.bipush 12, 2) := by decide +kernel
theorem dL_isTold_290 : decode cL_isTold 290 = .ok (.iaload, 1) := by decide +kernel
theorem dL_isTold_291 : decode cL_isTold 291 = .ok (.if_icmp .ne 17, 3) := by decide +kernel
theorem dL_isTold_294 : decode cL_isTold 294 = .ok (.aload_n 0, 1) := by decide +kernel
theorem dL_isTold_295 : decode cL_isTold 295 = .ok (.iload 5, 2) := by decide +kernel
theorem dL_isTold_297 : decode cL_isTold 297 = .ok (.iconst 4, 1) := by decide +kernel
theorem dL_isTold_298 : decode cL_isTold 298 = .ok (.invokevirtual 36, 3) := by decide +kernel
theorem dL_isTold_301 : decode cL_isTold 301 = .ok (.aload_n 1, 1) := by decide +kernel
theorem dL_isTold_302 : decode cL_isTold 302 = .ok (.bipush 13, 2) := by decide +kernel
theorem dL_isTold_304 : decode cL_isTold 304 = .ok (.iaload, 1) := by decide +kernel
theorem dL_isTold_305 : decode cL_isTold 305 = .ok (.if_icmp .eq 5, 3) := by decide +kernel
theorem dL_isTold_308 : decode cL_isTold 308 = .ok (.iconst 0, 1) := by decide +kernel
theorem dL_isTold_309 : decode cL_isTold 309 = .ok (.ireturn, 1) := by decide +kernel
theorem dL_isTold_310 : decode cL_isTold 310 = .ok (.aload_n 0, 1) := by decide +kernel
theorem dL_isTold_311 : decode cL_isTold 311 = .ok (.iconst 1, 1) := by decide +kernel
theorem dL_isTold_312 : decode cL_isTold 312 = .ok (.invokevirtual 10, 3) := by decide +kernel
theorem dL_isTold_315 : decode cL_isTold 315 = .ok (.aload_n 1, 1) := by decide +kernel
theorem dL_isTold_316 : decode cL_isTold 316 = .ok (.iconst 0, 1) := by decide +kernel
theorem dL_isTold_317 : decode cL_isTold 317 = .ok (.iaload, 1) := by decide +kernel
theorem dL_isTold_318 : decode cL_isTold 318 = .ok (.if_icmp .ne 113, 3) := by decide +kernel
theorem dL_isTold_321 : decode cL_isTold 321 = .ok (.aload_n 0, 1) := by decide +kernel
theorem dL_isTold_322 : decode cL_isTold 322 = .ok (.iconst 2, 1) := by decide +kernel
theorem dL_isTold_323 : decode cL_isTold 323 = .ok (.invokevirtual 10, 3) := by decide +kernel
theorem dL_isTold_326 : decode cL_isTold 326 = .ok (.aload_n 1, 1) := by decide +kernel
theorem dL_isTold_327 : decode cL_isTold 327 = .ok (.iconst 1, 1) := by decide +kernel
theorem dL_isTold_328 : decode cL_isTold 328 = .ok (.iaload, 1) := by decide +kernel
theorem dL_isTold_329 : decode cL_isTold 329 = .ok (.if_icmp .ne 102, 3) := by decide +kernel
theorem dL_isTold_332 : decode cL_isTold 332 = .ok (.aload_n 0, 1) := by decide +kernel
theorem dL_isTold_333 : decode cL_isTold 333 = .ok (.iconst 3, 1) := by decide +kernel
theorem dL_isTold_334 : decode cL_isTold 334 = .ok (.invokevirtual 10, 3) := by decide +kernel
theorem dL_isTold_337 : decode cL_isTold 337 = .ok (.aload_n 1, 1) := by decide +kernel
theorem dL_isTold_338 : decode cL_isTold 338 = .ok (.iconst 2, 1) := by decide +kernel
theorem dL_isTold_339 : decode cL_isTold 339 = .ok (.iaload, 1) := by decide +kernel
theorem dL_isTold_340 : decode cL_isTold 340 = .ok (.if_icmp .ne 91, 3) := by decide +kernel
theorem dL_isTold_343 : decode cL_isTold 343 = .ok (.aload_n 0, 1) := by decide +kernel
theorem dL_isTold_344 : decode cL_isTold 344 = .ok (.iconst 4, 1) := by decide +kernel
theorem dL_isTold_345 : decode cL_isTold 345 = .ok (.invokevirtual 10, 3) := by decide +kernel
theorem dL_isTold_348 : decode cL_isTold 348 = .ok (.aload_n 1, 1) := by decide +kernel
theorem dL_isTold_349 : decode cL_isTold 349 = .ok (.iconst 3, 1) := by decide +kernel
theorem dL_isTold_350 : decode cL_isTold 350 = .ok (.iaload, 1) := by decide +kernel
theorem dL_isTold_351 : decode cL_isTold 351 = .ok (.if_icmp .ne 80, 3) := by decide +kernel
theorem dL_isTold_354 : decode cL_isTold 354 = .ok (.aload_n 0, 1) := by decide +kernel
theorem dL_isTold_355 : decode cL_isTold 355 = .ok (.iconst 5, 1) := by decide +kernel
theorem dL_isTold_356 : decode cL_isTold 356 = .ok (.invokevirtual 10, 3) := by decide +kernel
theorem dL_isTold_359 : decode cL_isTold 359 = .ok (.aload_n 1, 1) := by decide +kernel
theorem dL_isTold_360 : decode cL_isTold 360 = .ok (.iconst 4, 1) := by decide +kernel
theorem dL_isTold_361 : decode cL_isTold 361 = .ok (.iaload, 1) := by decide +kernel
theorem dL_isTold_362 : decode cL_isTold 362 = .ok (.if_icmp .ne 69, 3) := by decide +kernel
theorem dL_isTold_365 : decode cL_isTold 365 = .ok (.aload_n 0, 1) := by decide +kernel
theorem dL_isTold_366 : decode cL_isTold 366 = .ok (.bipush 6, 2) := by decide +kernel
theorem dL_isTold_368 : decode cL_isTold 368 = .ok (.invokevirtual 10, 3) := by decide +kernel
theorem dL_isTold_371 : decode cL_isTold 371 = .ok (.aload_n 1, 1) := by decide +kernel
theorem dL_isTold_372 : decode cL_isTold 372 = .ok (.iconst 5, 1) := by decide +kernel
theorem dL_isTold_373 : decode cL_isTold 373 = .ok (.iaload, 1) := by decide +kernel
theorem dL_isTold_374 : decode cL_isTold 374 = .ok (.if_icmp .ne 57, 3) := by decide +kernel
theorem dL_isTold_377 : decode cL_isTold 377 = .ok (.aload_n 0, 1) := by decide +kernel
theorem dL_isTold_378 : decode cL_isTold 378 = .ok (.bipush 7, 2) := by decide +kernel
theorem dL_isTold_380 : decode cL_isTold 380 = .ok (.invokevirtual 10, 3) := by decide +kernel
theorem dL_isTold_383 : decode cL_isTold 383 = .ok (.aload_n 1, 1) := by decide +kernel
theorem dL_isTold_384 : decode cL_isTold 384 = .ok (.bipush 6, 2) := by decide +kernel
theorem dL_isTold_386 : decode cL_isTold 386 = .ok (.iaload, 1) := by decide +kernel
theorem dL_isTold_387 : decode cL_isTold 387 = .ok (.if_icmp .ne 44, 3) := by decide +kernel
theorem dL_isTold_390 : decode cL_isTold 390 = .ok (.aload_n 0, 1) := by decide +kernel
theorem dL_isTold_391 : decode cL_isTold 391 = .ok (.bipush 8, 2) := by decide +kernel
theorem dL_isTold_393 : decode cL_isTold 393 = .ok (.invokevirtual 10, 3) := by decide +kernel
theorem dL_isTold_396 : decode cL_isTold 396 = .ok (.aload_n 1, 1) := by decide +kernel
theorem dL_isTold_397 : decode cL_isTold 397 = .ok (.bipush 7, 2) := by decide +kernel
theorem dL_isTold_399 : decode cL_isTold 399 = .ok (.iaload, 1) := by decide +kernel
theorem dL_isTold_400 : decode cL_isTold 400 = .ok (.if_icmp .ne 31, 3) := by decide +kernel
theorem dL_isTold_403 : decode cL_isTold 403 = .ok (.aload_n 0, 1) := by decide +kernel
theorem dL_isTold_404 : decode cL_isTold 404 = .ok (.bipush 9, 2) := by decide +kernel
theorem dL_isTold_406 : decode cL_isTold 406 = .ok (.invokevirtual 10, 3) := by decide +kernel
theorem dL_isTold_409 : decode cL_isTold 409 = .ok (.aload_n 1, 1) := by decide +kernel
theorem dL_isTold_410 : decode cL_isTold 410 = .ok (.bipush 8, 2) := by decide +kernel
theorem dL_isTold_412 : decode cL_isTold 412 = .ok (.iaload, 1) := by decide +kernel
theorem dL_isTold_413 : decode cL_isTold 413 = .ok (.if_icmp .ne 18, 3) := by decide +kernel
theorem dL_isTold_416 : decode cL_isTold 416 = .ok (.aload_n 0, 1) := by decide +kernel
theorem dL_isTold_417 : decode cL_isTold 417 = .ok (.bipush 11, 2) := by decide +kernel
theorem dL_isTold_419 : decode cL_isTold 419 = .ok (.invokevirtual 10, 3) := by decide +kernel
theorem dL_isTold_422 : decode cL_isTold 422 = .ok (.iload 4, 2) := by decide +kernel
theorem dL_isTold_424 : decode cL_isTold 424 = .ok (.if_icmp .ne 7, 3) := by decide +kernel
theorem dL_isTold_427 : decode cL_isTold 427 = .ok (.iconst 1, 1) := by decide +kernel
theorem dL_isTold_428 : decode cL_isTold 428 = .ok (.goto 4, 3) := by decide +kernel
theorem dL_isTold_431 : decode cL_isTold 431 = .ok (.iconst 0, 1) := by decide +kernel
theorem dL_isTold_432 : decode cL_isTold 432 = .ok (.ireturn, 1) := by decide +kernel
theorem dL_law_0 : decode cL_law 0 = .ok (.new 11, 3) := by decide +kernel
theorem dL_law_3 : decode cL_law 3 = .ok (.dup, 1) := by decide +kernel
theorem dL_law_4 : decode cL_law 4 = .ok (.invokespecial 39, 3) := by decide +kernel
theorem dL_law_7 : decode cL_law 7 = .ok (.astore_n 1, 1) := by decide +kernel
theorem dL_law_8 : decode cL_law 8 = .ok (.iconst 1, 1) := by decide +kernel
theorem dL_law_9 : decode cL_law 9 = .ok (.aload_n 0, 1) := by decide +kernel
theorem dL_law_10 : decode cL_law 10 = .ok (.iconst 0, 1) := by decide +kernel
theorem dL_law_11 : decode cL_law 11 = .ok (.iconst 3, 1) := by decide +kernel
theorem dL_law_12 : decode cL_law 12 = .ok (.invokestatic 40, 3) := by decide +kernel
theorem dL_law_15 : decode cL_law 15 = .ok (.iadd, 1) := by decide +kernel
theorem dL_law_16 : decode cL_law 16 = .ok (.istore_n 2, 1) := by decide +kernel
theorem dL_law_17 : decode cL_law 17 = .ok (.bipush 14, 2) := by decide +kernel
theorem dL_law_19 : decode cL_law 19 = .ok (.newarray .int, 2) := by decide +kernel
theorem dL_law_21 : decode cL_law 21 = .ok (.astore_n 3, 1) := by decide +kernel
theorem dL_law_22 : decode cL_law 22 = .ok (.bipush 30, 2) := by decide +kernel
theorem dL_law_24 : decode cL_law 24 = .ok (.newarray .int, 2) := by decide +kernel
theorem dL_law_26 : decode cL_law 26 = .ok (.astore 4, 2) := by decide +kernel
theorem dL_law_28 : decode cL_law 28 = .ok (.bipush 18, 2) := by decide +kernel
theorem dL_law_30 : decode cL_law 30 = .ok (.newarray .int, 2) := by decide +kernel
theorem dL_law_32 : decode cL_law 32 = .ok (.astore 5, 2) := by decide +kernel
theorem dL_law_34 : decode cL_law 34 = .ok (.aload_n 3, 1) := by decide +kernel
theorem dL_law_35 : decode cL_law 35 = .ok (.iconst 3, 1) := by decide +kernel
theorem dL_law_36 : decode cL_law 36 = .ok (.bipush 30, 2) := by decide +kernel
theorem dL_law_38 : decode cL_law 38 = .ok (.iastore, 1) := by decide +kernel
theorem dL_law_39 : decode cL_law 39 = .ok (.aload_n 1, 1) := by decide +kernel
theorem dL_law_40 : decode cL_law 40 = .ok (.iconst 0, 1) := by decide +kernel
theorem dL_law_41 : decode cL_law 41 = .ok (.aload_n 0, 1) := by decide +kernel
theorem dL_law_42 : decode cL_law 42 = .ok (.iconst 1, 1) := by decide +kernel
theorem dL_law_43 : decode cL_law 43 = .ok (.bipush 12, 2) := by decide +kernel
theorem dL_law_45 : decode cL_law 45 = .ok (.invokestatic 40, 3) := by decide +kernel
theorem dL_law_48 : decode cL_law 48 = .ok (.invokevirtual 44, 3) := by decide +kernel
theorem dL_law_51 : decode cL_law 51 = .ok (.pop, 1) := by decide +kernel
theorem dL_law_52 : decode cL_law 52 = .ok (.aload_n 1, 1) := by decide +kernel
theorem dL_law_53 : decode cL_law 53 = .ok (.iconst 1, 1) := by decide +kernel
theorem dL_law_54 : decode cL_law 54 = .ok (.bipush 10, 2) := by decide +kernel
theorem dL_law_56 : decode cL_law 56 = .ok (.aload_n 0, 1) := by decide +kernel
theorem dL_law_57 : decode cL_law 57 = .ok (.iconst 2, 1) := by decide +kernel
theorem dL_law_58 : decode cL_law 58 = .ok (.bipush 40, 2) := by decide +kernel
theorem dL_law_60 : decode cL_law 60 = .ok (.invokestatic 40, 3) := by decide +kernel
theorem dL_law_63 : decode cL_law 63 = .ok (.iadd, 1) := by decide +kernel
theorem dL_law_64 : decode cL_law 64 = .ok (.invokevirtual 44, 3) := by decide +kernel
theorem dL_law_67 : decode cL_law 67 = .ok (.pop, 1) := by decide +kernel
theorem dL_law_68 : decode cL_law 68 = .ok (.aload_n 1, 1) := by decide +kernel
theorem dL_law_69 : decode cL_law 69 = .ok (.iconst 2, 1) := by decide +kernel
theorem dL_law_70 : decode cL_law 70 = .ok (.iconst 1, 1) := by decide +kernel
theorem dL_law_71 : decode cL_law 71 = .ok (.aload_n 0, 1) := by decide +kernel
theorem dL_law_72 : decode cL_law 72 = .ok (.iconst 3, 1) := by decide +kernel
theorem dL_law_73 : decode cL_law 73 = .ok (.bipush 8, 2) := by decide +kernel
theorem dL_law_75 : decode cL_law 75 = .ok (.invokestatic 40, 3) := by decide +kernel
theorem dL_law_78 : decode cL_law 78 = .ok (.iadd, 1) := by decide +kernel
theorem dL_law_79 : decode cL_law 79 = .ok (.invokevirtual 44, 3) := by decide +kernel
theorem dL_law_82 : decode cL_law 82 = .ok (.pop, 1) := by decide +kernel
theorem dL_law_83 : decode cL_law 83 = .ok (.aload_n 1, 1) := by decide +kernel
theorem dL_law_84 : decode cL_law 84 = .ok (.iconst 3, 1) := by decide +kernel
theorem dL_law_85 : decode cL_law 85 = .ok (.aload_n 0, 1) := by decide +kernel
theorem dL_law_86 : decode cL_law 86 = .ok (.iconst 4, 1) := by decide +kernel
theorem dL_law_87 : decode cL_law 87 = .ok (.bipush 30, 2) := by decide +kernel
theorem dL_law_89 : decode cL_law 89 = .ok (.invokestatic 40, 3) := by decide +kernel
theorem dL_law_92 : decode cL_law 92 = .ok (.invokevirtual 44, 3) := by decide +kernel
theorem dL_law_95 : decode cL_law 95 = .ok (.pop, 1) := by decide +kernel
theorem dL_law_96 : decode cL_law 96 = .ok (.aload_n 1, 1) := by decide +kernel
theorem dL_law_97 : decode cL_law 97 = .ok (.iconst 4, 1) := by decide +kernel
theorem dL_law_98 : decode cL_law 98 = .ok (.aload_n 0, 1) := by decide +kernel
theorem dL_law_99 : decode cL_law 99 = .ok (.iconst 5, 1) := by decide +kernel
theorem dL_law_100 : decode cL_law 100 = .ok (.iconst 4, 1) := by decide +kernel
theorem dL_law_101 : decode cL_law 101 = .ok (.invokestatic 40, 3) := by decide +kernel
theorem dL_law_104 : decode cL_law 104 = .ok (.invokevirtual 44, 3) := by decide +kernel
theorem dL_law_107 : decode cL_law 107 = .ok (.pop, 1) := by decide +kernel
theorem dL_law_108 : decode cL_law 108 = .ok (.aload_n 1, 1) := by decide +kernel
theorem dL_law_109 : decode cL_law 109 = .ok (.iconst 5, 1) := by decide +kernel
theorem dL_law_110 : decode cL_law 110 = .ok (.iconst 1, 1) := by decide +kernel
theorem dL_law_111 : decode cL_law 111 = .ok (.aload_n 0, 1) := by decide +kernel
theorem dL_law_112 : decode cL_law 112 = .ok (.bipush 6, 2) := by decide +kernel
theorem dL_law_114 : decode cL_law 114 = .ok (.bipush 6, 2) := by decide +kernel
theorem dL_law_116 : decode cL_law 116 = .ok (.invokestatic 40, 3) := by decide +kernel
theorem dL_law_119 : decode cL_law 119 = .ok (.iadd, 1) := by decide +kernel
theorem dL_law_120 : decode cL_law 120 = .ok (.invokevirtual 44, 3) := by decide +kernel
theorem dL_law_123 : decode cL_law 123 = .ok (.pop, 1) := by decide +kernel
theorem dL_law_124 : decode cL_law 124 = .ok (.aload_n 1, 1) := by decide +kernel
theorem dL_law_125 : decode cL_law 125 = .ok (.bipush 6, 2) := by decide +kernel
theorem dL_law_127 : decode cL_law 127 = .ok (.iconst 5, 1) := by decide +kernel
theorem dL_law_128 : decode cL_law 128 = .ok (.aload_n 0, 1) := by decide +kernel
theorem dL_law_129 : decode cL_law 129 = .ok (.bipush 7, 2) := by decide +kernel
theorem dL_law_131 : decode cL_law 131 = .ok (.bipush 60, 2) := by decide +kernel
theorem dL_law_133 : decode cL_law 133 = .ok (.invokestatic 40, 3) := by decide +kernel
theorem dL_law_136 : decode cL_law 136 = .ok (.iadd, 1) := by decide +kernel
theorem dL_law_137 : decode cL_law 137 = .ok (.invokevirtual 44, 3) := by decide +kernel
theorem dL_law_140 : decode cL_law 140 = .ok (.pop, 1) := by decide +kernel
theorem dL_law_141 : decode cL_law 141 = .ok (.aload_n 1, 1) := by decide +kernel
theorem dL_law_142 : decode cL_law 142 = .ok (.bipush 7, 2) := by decide +kernel
theorem dL_law_144 : decode cL_law 144 = .ok (.iconst 1, 1) := by decide +kernel
theorem dL_law_145 : decode cL_law 145 = .ok (.aload_n 0, 1) := by decide +kernel
theorem dL_law_146 : decode cL_law 146 = .ok (.bipush 8, 2) := by decide +kernel
theorem dL_law_148 : decode cL_law 148 = .ok (.iconst 3, 1) := by decide +kernel
theorem dL_law_149 : decode cL_law 149 = .ok (.invokestatic 40, 3) := by decide +kernel
theorem dL_law_152 : decode cL_law 152 = .ok (.iadd, 1) := by decide +kernel
theorem dL_law_153 : decode cL_law 153 = .ok (.invokevirtual 44, 3) := by decide +kernel
theorem dL_law_156 : decode cL_law 156 = .ok (.pop, 1) := by decide +kernel
theorem dL_law_157 : decode cL_law 157 = .ok (.iconst 0, 1) := by decide +kernel
theorem dL_law_158 : decode cL_law 158 = .ok (.istore 6, 2) := by decide +kernel
theorem dL_law_160 : decode cL_law 160 = .ok (.iload 6, 2) := by decide +kernel
theorem dL_law_162 : decode cL_law 162 = .ok (.iload_n 2, 1) := by decide +kernel
theorem dL_law_163 : decode cL_law 163 = .ok (.if_icmp .ge 287, 3) := by decide +kernel
theorem dL_law_166 : decode cL_law 166 = .ok (.bipush 8, 2) := by decide +kernel
theorem dL_law_168 : decode cL_law 168 = .ok (.iload 6, 2) := by decide +kernel
theorem dL_law_170 : decode cL_law 170 = .ok (.imul, 1) := by decide +kernel
theorem dL_law_171 : decode cL_law 171 = .ok (.bipush 9, 2) := by decide +kernel
theorem dL_law_173 : decode cL_law 173 = .ok (.iadd, 1) := by decide +kernel
theorem dL_law_174 : decode cL_law 174 = .ok (.istore 7, 2) := by decide +kernel
theorem dL_law_176 : decode cL_law 176 = .ok (.aload_n 1, 1) := by decide +kernel
theorem dL_law_177 : decode cL_law 177 = .ok (.iconst 1, 1) := by decide +kernel
theorem dL_law_178 : decode cL_law 178 = .ok (.aload_n 0, 1) := by decide +kernel
theorem dL_law_179 : decode cL_law 179 = .ok (.iload 7, 2) := by decide +kernel
theorem dL_law_181 : decode cL_law 181 = .ok (.bipush 12, 2) := by decide +kernel
theorem dL_law_183 : decode cL_law 183 = .ok (.invokestatic 40, 3) := by decide +kernel
theorem dL_law_186 : decode cL_law 186 = .ok (.iadd, 1) := by decide +kernel
theorem dL_law_187 : decode cL_law 187 = .ok (.iconst 1, 1) := by decide +kernel
theorem dL_law_188 : decode cL_law 188 = .ok (.aload_n 0, 1) := by decide +kernel
theorem dL_law_189 : decode cL_law 189 = .ok (.iload 7, 2) := by decide +kernel
theorem dL_law_191 : decode cL_law 191 = .ok (.iconst 1, 1) := by decide +kernel
theorem dL_law_192 : decode cL_law 192 = .ok (.iadd, 1) := by decide +kernel
theorem dL_law_193 : decode cL_law 193 = .ok (.bipush 10, 2) := by decide +kernel
theorem dL_law_195 : decode cL_law 195 = .ok (.invokestatic 40, 3) := by decide +kernel
theorem dL_law_198 : decode cL_law 198 = .ok (.iadd, 1) := by decide +kernel
theorem dL_law_199 : decode cL_law 199 = .ok (.invokevirtual 47, 3) := by decide +kernel
theorem dL_law_202 : decode cL_law 202 = .ok (.pop, 1) := by decide +kernel
theorem dL_law_203 : decode cL_law 203 = .ok (.aload_n 1, 1) := by decide +kernel
theorem dL_law_204 : decode cL_law 204 = .ok (.iload 6, 2) := by decide +kernel
theorem dL_law_206 : decode cL_law 206 = .ok (.iconst 2, 1) := by decide +kernel
theorem dL_law_207 : decode cL_law 207 = .ok (.aload_n 0, 1) := by decide +kernel
theorem dL_law_208 : decode cL_law 208 = .ok (.iload 7, 2) := by decide +kernel
theorem dL_law_210 : decode cL_law 210 = .ok (.iconst 2, 1) := by decide +kernel
theorem dL_law_211 : decode cL_law 211 = .ok (.iadd, 1) := by decide +kernel
theorem dL_law_212 : decode cL_law 212 = .ok (.bipush 14, 2) := by decide +kernel
theorem dL_law_214 : decode cL_law 214 = .ok (.invokestatic 40, 3) := by decide +kernel
theorem dL_law_217 : decode cL_law 217 = .ok (.invokevirtual 50, 3) := by decide +kernel
theorem dL_law_220 : decode cL_law 220 = .ok (.pop, 1) := by decide +kernel
theorem dL_law_221 : decode cL_law 221 = .ok (.aload_n 1, 1) := by decide +kernel
theorem dL_law_222 : decode cL_law 222 = .ok (.iload 6, 2) := by decide +kernel
theorem dL_law_224 : decode cL_law 224 = .ok (.iconst 3, 1) := by decide +kernel
theorem dL_law_225 : decode cL_law 225 = .ok (.iconst 1, 1) := by decide +kernel
theorem dL_law_226 : decode cL_law 226 = .ok (.aload_n 0, 1) := by decide +kernel
theorem dL_law_227 : decode cL_law 227 = .ok (.iload 7, 2) := by decide +kernel
theorem dL_law_229 : decode cL_law 229 = .ok (.iconst 3, 1) := by decide +kernel
theorem dL_law_230 : decode cL_law 230 = .ok (.iadd, 1) := by decide +kernel
theorem dL_law_231 : decode cL_law 231 = .ok (.iconst 4, 1) := by decide +kernel
theorem dL_law_232 : decode cL_law 232 = .ok (.invokestatic 40, 3) := by decide +kernel
theorem dL_law_235 : decode cL_law 235 = .ok (.iadd, 1) := by decide +kernel
theorem dL_law_236 : decode cL_law 236 = .ok (.invokevirtual 50, 3) := by decide +kernel
theorem dL_law_239 : decode cL_law 239 = .ok (.pop, 1) := by decide +kernel
theorem dL_law_240 : decode cL_law 240 = .ok (.aload_n 1, 1) := by decide +kernel
theorem dL_law_241 : decode cL_law 241 = .ok (.iload 6, 2) := by decide +kernel
theorem dL_law_243 : decode cL_law 243 = .ok (.iconst 4, 1) := by decide +kernel
theorem dL_law_244 : decode cL_law 244 = .ok (.aload_n 0, 1) := by decide +kernel
theorem dL_law_245 : decode cL_law 245 = .ok (.iload 7, 2) := by decide +kernel
theorem dL_law_247 : decode cL_law 247 = .ok (.iconst 4, 1) := by decide +kernel
theorem dL_law_248 : decode cL_law 248 = .ok (.iadd, 1) := by decide +kernel
theorem dL_law_249 : decode cL_law 249 = .ok (.iconst 3, 1) := by decide +kernel
theorem dL_law_250 : decode cL_law 250 = .ok (.invokestatic 40, 3) := by decide +kernel
theorem dL_law_253 : decode cL_law 253 = .ok (.invokevirtual 50, 3) := by decide +kernel
theorem dL_law_256 : decode cL_law 256 = .ok (.pop, 1) := by decide +kernel
theorem dL_law_257 : decode cL_law 257 = .ok (.aload_n 1, 1) := by decide +kernel
theorem dL_law_258 : decode cL_law 258 = .ok (.iload 6, 2) := by decide +kernel
theorem dL_law_260 : decode cL_law 260 = .ok (.iconst 5, 1) := by decide +kernel
theorem dL_law_261 : decode cL_law 261 = .ok (.iconst 1, 1) := by decide +kernel
theorem dL_law_262 : decode cL_law 262 = .ok (.aload_n 0, 1) := by decide +kernel
theorem dL_law_263 : decode cL_law 263 = .ok (.iload 7, 2) := by decide +kernel
theorem dL_law_265 : decode cL_law 265 = .ok (.iconst 5, 1) := by decide +kernel
theorem dL_law_266 : decode cL_law 266 = .ok (.iadd, 1) := by decide +kernel
theorem dL_law_267 : decode cL_law 267 = .ok (.bipush 6, 2) := by decide +kernel
theorem dL_law_269 : decode cL_law 269 = .ok (.invokestatic 40, 3) := by decide +kernel
theorem dL_law_272 : decode cL_law 272 = .ok (.iadd, 1) := by decide +kernel
theorem dL_law_273 : decode cL_law 273 = .ok (.invokevirtual 50, 3) := by decide +kernel
theorem dL_law_276 : decode cL_law 276 = .ok (.pop, 1) := by decide +kernel
theorem dL_law_277 : decode cL_law 277 = .ok (.aload_n 1, 1) := by decide +kernel
theorem dL_law_278 : decode cL_law 278 = .ok (.iload 6, 2) := by decide +kernel
theorem dL_law_280 : decode cL_law 280 = .ok (.bipush 6, 2) := by decide +kernel
theorem dL_law_282 : decode cL_law 282 = .ok (.aload_n 0, 1) := by decide +kernel
theorem dL_law_283 : decode cL_law 283 = .ok (.iload 7, 2) := by decide +kernel
theorem dL_law_285 : decode cL_law 285 = .ok (.bipush 6, 2) := by decide +kernel
theorem dL_law_287 : decode cL_law 287 = .ok (.iadd, 1) := by decide +kernel
theorem dL_law_288 : decode cL_law 288 = .ok (.iconst 3, 1) := by decide +kernel
theorem dL_law_289 : decode cL_law 289 = .ok (.invokestatic 40, 3) := by decide +kernel
theorem dL_law_292 : decode cL_law 292 = .ok (.invokevirtual 50, 3) := by decide +kernel
theorem dL_law_295 : decode cL_law 295 = .ok (.pop, 1) := by decide +kernel
theorem dL_law_296 : decode cL_law 296 = .ok (.aload_n 1, 1) := by decide +kernel
theorem dL_law_297 : decode cL_law 297 = .ok (.iload 6, 2) := by decide +kernel
theorem dL_law_299 : decode cL_law 299 = .ok (.bipush 7, 2) := by decide +kernel
theorem dL_law_301 : decode cL_law 301 = .ok (.aload_n 0, 1) := by decide +kernel
theorem dL_law_302 : decode cL_law 302 = .ok (.iload 7, 2) := by decide +kernel
theorem dL_law_304 : decode cL_law 304 = .ok (.bipush 7, 2) := by decide +kernel
theorem dL_law_306 : decode cL_law 306 = .ok (.iadd, 1) := by decide +kernel
theorem dL_law_307 : decode cL_law 307 = .ok (.bipush 12, 2) := by decide +kernel
theorem dL_law_309 : decode cL_law 309 = .ok (.invokestatic 40, 3) := by decide +kernel
theorem dL_law_312 : decode cL_law 312 = .ok (.invokevirtual 50, 3) := by decide +kernel
theorem dL_law_315 : decode cL_law 315 = .ok (.pop, 1) := by decide +kernel
theorem dL_law_316 : decode cL_law 316 = .ok (.iconst 0, 1) := by decide +kernel
theorem dL_law_317 : decode cL_law 317 = .ok (.istore 8, 2) := by decide +kernel
theorem dL_law_319 : decode cL_law 319 = .ok (.iload 8, 2) := by decide +kernel
theorem dL_law_321 : decode cL_law 321 = .ok (.iconst 2, 1) := by decide +kernel
theorem dL_law_322 : decode cL_law 322 = .ok (.if_icmp .ge 122, 3) := by decide +kernel
theorem dL_law_325 : decode cL_law 325 = .ok (.bipush 9, 2) := by decide +kernel
theorem dL_law_327 : decode cL_law 327 = .ok (.iload 8, 2) := by decide +kernel
theorem dL_law_329 : decode cL_law 329 = .ok (.imul, 1) := by decide +kernel
theorem dL_law_330 : decode cL_law 330 = .ok (.iconst 3, 1) := by decide +kernel
theorem dL_law_331 : decode cL_law 331 = .ok (.iload 6, 2) := by decide +kernel
theorem dL_law_333 : decode cL_law 333 = .ok (.imul, 1) := by decide +kernel
theorem dL_law_334 : decode cL_law 334 = .ok (.iadd, 1) := by decide +kernel
theorem dL_law_335 : decode cL_law 335 = .ok (.istore 9, 2) := by decide +kernel
theorem dL_law_337 : decode cL_law 337 = .ok (.aload 5, 2) := by decide +kernel
theorem dL_law_339 : decode cL_law 339 = .ok (.iload 9, 2) := by decide +kernel
theorem dL_law_341 : decode cL_law 341 = .ok (.aload_n 0, 1) := by decide +kernel
theorem dL_law_342 : decode cL_law 342 = .ok (.iload 9, 2) := by decide +kernel
theorem dL_law_344 : decode cL_law 344 = .ok (.bipush 34, 2) := by decide +kernel
theorem dL_law_346 : decode cL_law 346 = .ok (.iadd, 1) := by decide +kernel
theorem dL_law_347 : decode cL_law 347 = .ok (.iconst 3, 1) := by decide +kernel
theorem dL_law_348 : decode cL_law 348 = .ok (.invokestatic 40, 3) := by decide +kernel
theorem dL_law_351 : decode cL_law 351 = .ok (.ifCond .ne 17, 3) := by decide +kernel
theorem dL_law_354 : decode cL_law 354 = .ok (.aload_n 0, 1) := by decide +kernel
theorem dL_law_355 : decode cL_law 355 = .ok (.iload 9, 2) := by decide +kernel
theorem dL_law_357 : decode cL_law 357 = .ok (.bipush 35, 2) := by decide +kernel
theorem dL_law_359 : decode cL_law 359 = .ok (.iadd, 1) := by decide +kernel
theorem dL_law_360 : decode cL_law 360 = .ok (.bipush 6, 2) := by decide +kernel
theorem dL_law_362 : decode cL_law 362 = .ok (.invokestatic 40, 3) := by decide +kernel
theorem dL_law_365 : decode cL_law 365 = .ok (.goto 4, 3) := by decide +kernel
theorem dL_law_368 : decode cL_law 368 = .ok (.iconst 0, 1) := by decide +kernel
theorem dL_law_369 : decode cL_law 369 = .ok (.iastore, 1) := by decide +kernel
theorem dL_law_370 : decode cL_law 370 = .ok (.aload 5, 2) := by decide +kernel
theorem dL_law_372 : decode cL_law 372 = .ok (.iload 9, 2) := by decide +kernel
theorem dL_law_374 : decode cL_law 374 = .ok (.iconst 1, 1) := by decide +kernel
theorem dL_law_375 : decode cL_law 375 = .ok (.iadd, 1) := by decide +kernel
theorem dL_law_376 : decode cL_law 376 = .ok (.aload_n 0, 1) := by decide +kernel
theorem dL_law_377 : decode cL_law 377 = .ok (.iload 9, 2) := by decide +kernel
theorem dL_law_379 : decode cL_law 379 = .ok (.bipush 36, 2) := by decide +kernel
theorem dL_law_381 : decode cL_law 381 = .ok (.iadd, 1) := by decide +kernel
theorem dL_law_382 : decode cL_law 382 = .ok (.bipush 60, 2) := by decide +kernel
theorem dL_law_384 : decode cL_law 384 = .ok (.invokestatic 40, 3) := by decide +kernel
theorem dL_law_387 : decode cL_law 387 = .ok (.iastore, 1) := by decide +kernel
theorem dL_law_388 : decode cL_law 388 = .ok (.aload 5, 2) := by decide +kernel
theorem dL_law_390 : decode cL_law 390 = .ok (.iload 9, 2) := by decide +kernel
theorem dL_law_392 : decode cL_law 392 = .ok (.iconst 2, 1) := by decide +kernel
theorem dL_law_393 : decode cL_law 393 = .ok (.iadd, 1) := by decide +kernel
theorem dL_law_394 : decode cL_law 394 = .ok (.aload_n 0, 1) := by decide +kernel
theorem dL_law_395 : decode cL_law 395 = .ok (.iload 9, 2) := by decide +kernel
theorem dL_law_397 : decode cL_law 397 = .ok (.bipush 37, 2) := by decide +kernel
theorem dL_law_399 : decode cL_law 399 = .ok (.iadd, 1) := by decide +kernel
theorem dL_law_400 : decode cL_law 400 = .ok (.bipush 15, 2) := by decide +kernel
theorem dL_law_402 : decode cL_law 402 = .ok (.invokestatic 40, 3) := by decide +kernel
theorem dL_law_405 : decode cL_law 405 = .ok (.iastore, 1) := by decide +kernel
theorem dL_law_406 : decode cL_law 406 = .ok (.aload_n 1, 1) := by decide +kernel
theorem dL_law_407 : decode cL_law 407 = .ok (.iload 8, 2) := by decide +kernel
theorem dL_law_409 : decode cL_law 409 = .ok (.iload 6, 2) := by decide +kernel
theorem dL_law_411 : decode cL_law 411 = .ok (.aload 5, 2) := by decide +kernel
theorem dL_law_413 : decode cL_law 413 = .ok (.iload 9, 2) := by decide +kernel
theorem dL_law_415 : decode cL_law 415 = .ok (.iaload, 1) := by decide +kernel
theorem dL_law_416 : decode cL_law 416 = .ok (.aload 5, 2) := by decide +kernel
theorem dL_law_418 : decode cL_law 418 = .ok (.iload 9, 2) := by decide +kernel
theorem dL_law_420 : decode cL_law 420 = .ok (.iconst 1, 1) := by decide +kernel
theorem dL_law_421 : decode cL_law 421 = .ok (.iadd, 1) := by decide +kernel
theorem dL_law_422 : decode cL_law 422 = .ok (.iaload, 1) := by decide +kernel
theorem dL_law_423 : decode cL_law 423 = .ok (.aload 5, 2) := by decide +kernel
theorem dL_law_425 : decode cL_law 425 = .ok (.iload 9, 2) := by decide +kernel
theorem dL_law_427 : decode cL_law 427 = .ok (.iconst 2, 1) := by decide +kernel
theorem dL_law_428 : decode cL_law 428 = .ok (.iadd, 1) := by decide +kernel
theorem dL_law_429 : decode cL_law 429 = .ok (.iaload, 1) := by decide +kernel
theorem dL_law_430 : decode cL_law 430 = .ok (.invokevirtual 54, 3) := by decide +kernel
theorem dL_law_433 : decode cL_law 433 = .ok (.ifCond .eq 5, 3) := by decide +kernel
theorem dL_law_436 : decode cL_law 436 = .ok (.iconst 0, 1) := by decide +kernel
theorem dL_law_437 : decode cL_law 437 = .ok (.ireturn, 1) := by decide +kernel
theorem dL_law_438 : decode cL_law 438 = .ok (.iinc 8 1, 3) := by decide +kernel
theorem dL_law_441 : decode cL_law 441 = .ok (.goto (-122), 3) := by decide +kernel
theorem dL_law_444 : decode cL_law 444 = .ok (.iinc 6 1, 3) := by decide +kernel
theorem dL_law_447 : decode cL_law 447 = .ok (.goto (-287), 3) := by decide +kernel
theorem dL_law_450 : decode cL_law 450 = .ok (.aload_n 0, 1) := by decide +kernel
theorem dL_law_451 : decode cL_law 451 = .ok (.bipush 60, 2) := by decide +kernel
theorem dL_law_453 : decode cL_law 453 = .ok (.iconst 2, 1) := by decide +kernel
theorem dL_law_454 : decode cL_law 454 = .ok (.invokestatic 40, 3) := by decide +kernel
theorem dL_law_457 : decode cL_law 457 = .ok (.ifCond .ne 17, 3) := by decide +kernel
theorem dL_law_460 : decode cL_law 460 = .ok (.aload_n 3, 1) := by decide +kernel
theorem dL_law_461 : decode cL_law 461 = .ok (.iconst 3, 1) := by decide +kernel
theorem dL_law_462 : decode cL_law 462 = .ok (.aload_n 1, 1) := by decide +kernel
theorem dL_law_463 : decode cL_law 463 = .ok (.bipush 18, 2) := by decide +kernel
theorem dL_law_465 : decode cL_law 465 = .ok (.invokevirtual 10, 3) := by decide +kernel
theorem dL_law_468 : decode cL_law 468 = .ok (.iastore, 1) := by decide +kernel
theorem dL_law_469 : decode cL_law 469 = .ok (.aload_n 1, 1) := by decide +kernel
theorem dL_law_470 : decode cL_law 470 = .ok (.invokevirtual 58, 3) := by decide +kernel
theorem dL_law_473 : decode cL_law 473 = .ok (.pop, 1) := by decide +kernel
theorem dL_law_474 : decode cL_law 474 = .ok (.aload_n 1, 1) := by decide +kernel
theorem dL_law_475 : decode cL_law 475 = .ok (.sipush 150, 3) := by decide +kernel
theorem dL_law_478 : decode cL_law 478 = .ok (.invokevirtual 62, 3) := by decide +kernel
theorem dL_law_481 : decode cL_law 481 = .ok (.istore 6, 2) := by decide +kernel
theorem dL_law_483 : decode cL_law 483 = .ok (.bipush (-6), 2) := by decide +kernel
theorem dL_law_485 : decode cL_law 485 = .ok (.istore 7, 2) := by decide +kernel
theorem dL_law_487 : decode cL_law 487 = .ok (.iconst 0, 1) := by decide +kernel
theorem dL_law_488 : decode cL_law 488 = .ok (.istore 8, 2) := by decide +kernel
theorem dL_law_490 : decode cL_law 490 = .ok (.iload 8, 2) := by decide +kernel
theorem dL_law_492 : decode cL_law 492 = .ok (.sipush 150, 3) := by decide +kernel
theorem dL_law_495 : decode cL_law 495 = .ok (.if_icmp .ge 70, 3) := by decide +kernel
theorem dL_law_498 : decode cL_law 498 = .ok (.aload_n 1, 1) := by decide +kernel
theorem dL_law_499 : decode cL_law 499 = .ok (.aload_n 3, 1) := by decide +kernel
theorem dL_law_500 : decode cL_law 500 = .ok (.aload 4, 2) := by decide +kernel
theorem dL_law_502 : decode cL_law 502 = .ok (.aload 5, 2) := by decide +kernel
theorem dL_law_504 : decode cL_law 504 = .ok (.iload_n 2, 1) := by decide +kernel
theorem dL_law_505 : decode cL_law 505 = .ok (.iload 8, 2) := by decide +kernel
theorem dL_law_507 : decode cL_law 507 = .ok (.invokestatic 65, 3) := by decide +kernel
theorem dL_law_510 : decode cL_law 510 = .ok (.iload 7, 2) := by decide +kernel
theorem dL_law_512 : decode cL_law 512 = .ok (.ifCond .ge 18, 3) := by decide +kernel
theorem dL_law_515 : decode cL_law 515 = .ok (.aload_n 3, 1) := by decide +kernel
theorem dL_law_516 : decode cL_law 516 = .ok (.bipush 8, 2) := by decide +kernel
theorem dL_law_518 : decode cL_law 518 = .ok (.iaload, 1) := by decide +kernel
theorem dL_law_519 : decode cL_law 519 = .ok (.iconst 1, 1) := by decide +kernel
theorem dL_law_520 : decode cL_law 520 = .ok (.if_icmp .ne 10, 3) := by decide +kernel
theorem dL_law_523 : decode cL_law 523 = .ok (.iload 8, 2) := by decide +kernel
theorem dL_law_525 : decode cL_law 525 = .ok (.iconst 1, 1) := by decide +kernel
theorem dL_law_526 : decode cL_law 526 = .ok (.iadd, 1) := by decide +kernel
theorem dL_law_527 : decode cL_law 527 = .ok (.goto 5, 3) := by decide +kernel
theorem dL_law_530 : decode cL_law 530 = .ok (.iload 7, 2) := by decide +kernel
theorem dL_law_532 : decode cL_law 532 = .ok (.istore 7, 2) := by decide +kernel
theorem dL_law_534 : decode cL_law 534 = .ok (.aload_n 1, 1) := by decide +kernel
theorem dL_law_535 : decode cL_law 535 = .ok (.iconst 1, 1) := by decide +kernel
theorem dL_law_536 : decode cL_law 536 = .ok (.invokevirtual 69, 3) := by decide +kernel
theorem dL_law_539 : decode cL_law 539 = .ok (.iload 8, 2) := by decide +kernel
theorem dL_law_541 : decode cL_law 541 = .ok (.iconst 1, 1) := by decide +kernel
theorem dL_law_542 : decode cL_law 542 = .ok (.iadd, 1) := by decide +kernel
theorem dL_law_543 : decode cL_law 543 = .ok (.if_icmp .ne 14, 3) := by decide +kernel
theorem dL_law_546 : decode cL_law 546 = .ok (.aload_n 1, 1) := by decide +kernel
theorem dL_law_547 : decode cL_law 547 = .ok (.aload_n 3, 1) := by decide +kernel
theorem dL_law_548 : decode cL_law 548 = .ok (.aload 4, 2) := by decide +kernel
theorem dL_law_550 : decode cL_law 550 = .ok (.iload_n 2, 1) := by decide +kernel
theorem dL_law_551 : decode cL_law 551 = .ok (.invokestatic 72, 3) := by decide +kernel
theorem dL_law_554 : decode cL_law 554 = .ok (.ifCond .ne 5, 3) := by decide +kernel
theorem dL_law_557 : decode cL_law 557 = .ok (.iconst 0, 1) := by decide +kernel
theorem dL_law_558 : decode cL_law 558 = .ok (.ireturn, 1) := by decide +kernel
theorem dL_law_559 : decode cL_law 559 = .ok (.iinc 8 1, 3) := by decide +kernel
theorem dL_law_562 : decode cL_law 562 = .ok (.goto (-72), 3) := by decide +kernel
theorem dL_law_565 : decode cL_law 565 = .ok (.iload 6, 2) := by decide +kernel
theorem dL_law_567 : decode cL_law 567 = .ok (.iload 7, 2) := by decide +kernel
theorem dL_law_569 : decode cL_law 569 = .ok (.if_icmp .ne 7, 3) := by decide +kernel
theorem dL_law_572 : decode cL_law 572 = .ok (.iconst 1, 1) := by decide +kernel
theorem dL_law_573 : decode cL_law 573 = .ok (.goto 4, 3) := by decide +kernel
theorem dL_law_576 : decode cL_law 576 = .ok (.iconst 0, 1) := by decide +kernel
theorem dL_law_577 : decode cL_law 577 = .ok (.ireturn, 1) := by decide +kernel
end
section
/-! THE PICTURE: every object of the system has a number; its address is a function of the number; what it holds is a function of number and place. -/
def gtb : List Cond := lw_tbl.filter goodWord
theorem gtb_of {w : Cond} (h : w ∈ lw_tbl) (hg : goodWord w = true) : w ∈ gtb := List.mem_filter.mpr ⟨h, hg⟩
theorem gtb_good {w : Cond} (h : w ∈ gtb) : goodWord w = true := (List.mem_filter.mp h).2
theorem gtb_in {y : MethodName} {b : ByteArray} {n : Nat} {r : Option FieldType} (h : Cond.code y b n r ∈ gtb) : GoodIn gtb (Cond.code y b n r :: gtb) := by
  intro w hw
  rcases List.mem_cons.mp hw with rfl | hw
  · exact ⟨h, good_of_word (gtb_good h)⟩
  · exact ⟨hw, good_of_word (gtb_good hw)⟩
abbrev SD : Type := Nat × (Nat → Int32)
abbrev GG : Type := (Nat → Nat) × (Nat → ClassId) × (Nat → Nat → Nat) × (Nat → ClassId) × (Nat → Nat) × SD
abbrev gD (Γ : GG) : va_G := (Γ.2.1, Γ.2.2.1)
abbrev gA (Γ : GG) : Nat → ClassId := Γ.2.2.2.1
abbrev gS (Γ : GG) : Nat → Nat := Γ.2.2.2.2.1
/-- the script: its length, its ints -/
abbrev gX (Γ : GG) : SD := Γ.2.2.2.2.2
abbrev Sg : Type := Nat → Nat → Int32
abbrev classes : List vw_C := [(RX0, TX0, 13), (RX1, TX1, 2), (RX2, TX2, 9), (RX3, TX3, 16), (RX4, TX4, 5)]
abbrev gtys (Γ : GG) : List (ClassId × FieldType) := [(gA Γ 0, .int), (gA Γ 1, .char), (gA Γ 2, .boolean), (gA Γ 3, .object RX0), (gA Γ 4, .object RX3)]
/-- the kind of each object: 0 Board, 1 Book, 2 Pad, 3 Task, 4 WatchdogBoard; arrays: 6 int, 7 char, 8 boolean, 9 of Boards, 10 of Tasks -/
def kdL : List Nat := [4, 0, 6, 10, 1, 6, 3, 6, 6, 6, 6, 3, 6, 6, 6, 6, 3, 6, 6, 6, 6, 3, 6, 6, 6, 6, 3, 6, 6, 6, 6, 3, 6, 6, 6, 6, 0, 6, 10, 1, 6, 3, 6, 6, 6, 6, 3, 6, 6, 6, 6, 3, 6, 6, 6, 6, 3, 6, 6, 6, 6, 3, 6, 6, 6, 6, 3, 6, 6, 6, 6, 9, 0, 6, 10, 1, 6, 3, 6, 6, 6, 6, 3, 6, 6, 6, 6, 3, 6, 6, 6, 6, 3, 6, 6, 6, 6, 3, 6, 6, 6, 6, 3, 6, 6, 6, 6, 0, 6, 10, 1, 6, 3, 6, 6, 6, 6, 3, 6, 6, 6, 6, 3, 6, 6, 6, 6, 3, 6, 6, 6, 6, 3, 6, 6, 6, 6, 3, 6, 6, 6, 6, 8, 2, 7, 6, 6, 6, 6, 6, 6, 6, 6]
def lnL : List Nat := [0, 0, 8, 6, 0, 80, 0, 8, 2, 2, 2, 0, 8, 2, 2, 2, 0, 8, 2, 2, 2, 0, 8, 2, 2, 2, 0, 8, 2, 2, 2, 0, 8, 2, 2, 2, 0, 8, 6, 0, 80, 0, 8, 2, 2, 2, 0, 8, 2, 2, 2, 0, 8, 2, 2, 2, 0, 8, 2, 2, 2, 0, 8, 2, 2, 2, 0, 8, 2, 2, 2, 2, 0, 8, 6, 0, 80, 0, 8, 2, 2, 2, 0, 8, 2, 2, 2, 0, 8, 2, 2, 2, 0, 8, 2, 2, 2, 0, 8, 2, 2, 2, 0, 8, 2, 2, 2, 0, 8, 6, 0, 80, 0, 8, 2, 2, 2, 0, 8, 2, 2, 2, 0, 8, 2, 2, 2, 0, 8, 2, 2, 2, 0, 8, 2, 2, 2, 0, 8, 2, 2, 2, 2, 0, 60, 20, 20, 20, 20, 20, 14, 30, 18]
def kd (q : Nat) : Nat := kdL.getD q 11
def ln (q : Nat) : Nat := lnL.getD q 0
def fs0 (Γ : GG) (σ : Sg) (q : Nat) : List Value := [.ref (Γ.1 (q + 1)), .ref (Γ.1 (q + 2)), .ref (Γ.1 (q + 3)), .int (σ q 3), .int (σ q 4), .int (σ q 5), .int (σ q 6), .int (σ q 7), .int (σ q 8), .int (σ q 9), .int (σ q 10), .int (σ q 11), .int (σ q 12)]
def fs1 (Γ : GG) (σ : Sg) (q : Nat) : List Value := [.ref (Γ.1 (q + 1)), .int (σ q 1)]
def fs2 (Γ : GG) (σ : Sg) (q : Nat) : List Value := [.ref (Γ.1 (q + 1)), .int (σ q 1), .int (σ q 2), .int (σ q 3), .ref (Γ.1 (q + 2)), .ref (Γ.1 (q + 3)), .ref (Γ.1 (q + 4)), .ref (Γ.1 (q + 5)), .ref (Γ.1 (q + 6))]
def fs3 (Γ : GG) (σ : Sg) (q : Nat) : List Value := [.ref (Γ.1 (q + 1)), .ref (Γ.1 (q + 2)), .ref (Γ.1 (q + 3)), .ref (Γ.1 (q + 4)), .int (σ q 4), .int (σ q 5), .int (σ q 6), .int (σ q 7), .int (σ q 8), .int (σ q 9), .int (σ q 10), .int (σ q 11), .int (σ q 12), .int (σ q 13), .int (σ q 14), .int (σ q 15)]
def fs4 (Γ : GG) (σ : Sg) (q : Nat) : List Value := [.ref (Γ.1 (q + 1)), .ref (Γ.1 (q + 36)), .ref (Γ.1 (q + 71)), .ref (Γ.1 (q + 142)), .ref (Γ.1 (q + 143))]
def ent (Γ : GG) (σ : Sg) (q : Nat) : va_E :=
  if kd q = 0 then .inr (0, fs0 Γ σ q) else if kd q = 1 then .inr (1, fs1 Γ σ q) else if kd q = 2 then .inr (2, fs2 Γ σ q) else if kd q = 3 then .inr (3, fs3 Γ σ q) else if kd q = 4 then .inr (4, fs4 Γ σ q)
  else if kd q = 6 then .inl (gA Γ 0, ln q, .inl (σ q)) else if kd q = 7 then .inl (gA Γ 1, ln q, .inl (σ q)) else if kd q = 8 then .inl (gA Γ 2, ln q, .inl (σ q))
  else if kd q = 9 then .inl (gA Γ 3, 2, .inr (.inr (.inr (.inr (fun k => some (Γ.1 (q + 1 + 35 * k))))))) else .inl (gA Γ 4, 6, .inr (.inr (.inr (.inr (fun k => some (Γ.1 (q + 3 + 5 * k)))))))
def pic (Γ : GG) (σ : Sg) : va_W := (List.range 153).map (fun q => (Γ.1 q, ent Γ σ q))
theorem pic_get {Γ : GG} {σ : Sg} {q : Nat} (hq : q < 153) : (pic Γ σ)[q]? = some (Γ.1 q, ent Γ σ q) := by
  simp [pic, hq]
theorem pic_len {Γ : GG} {σ : Sg} : (pic Γ σ).length = 153 := by simp [pic]
theorem ent_congr {Γ : GG} {σ σ' : Sg} {q : Nat} (h : σ' q = σ q) : ent Γ σ' q = ent Γ σ q := by
  simp only [ent, fs0, fs1, fs2, fs3, fs4, h]
theorem pic_set {Γ : GG} {σ σ' : Sg} {q : Nat} {e : va_E} (ho : ∀ k, k ≠ q → σ' k = σ k) (he : ent Γ σ' q = e) : (pic Γ σ).set q (Γ.1 q, e) = pic Γ σ' := by
  apply List.ext_getElem?
  intro k
  by_cases hk : k < 153
  · by_cases hkq : k = q
    · subst hkq
      rw [List.getElem?_set_self (by rw [pic_len]; exact hk), pic_get hk, he]
    · rw [List.getElem?_set_ne (Ne.symm hkq), pic_get hk, pic_get hk, ent_congr (ho k hkq)]
  · rw [List.getElem?_eq_none (by rw [List.length_set, pic_len]; omega), List.getElem?_eq_none (by rw [pic_len]; omega)]
/-- the addresses that the system may write -/
def AD (Γ : GG) : Nat → Prop := fun a => ∃ k, k < 153 ∧ a = Γ.1 k
theorem pic_D {Γ : GG} (h : ∀ i j, i < 153 → j < 153 → Γ.1 i = Γ.1 j → i = j) (σ : Sg) : va_D (AD Γ) (pic Γ σ) := by
  have lt : ∀ (k : Nat) (q : Nat × va_E), (pic Γ σ)[k]? = some q → k < 153 ∧ q = (Γ.1 k, ent Γ σ k) := by
    intro k q hk
    have h1 := (List.getElem?_eq_some_iff.mp hk).1
    rw [pic_len] at h1
    rw [pic_get h1] at hk
    exact ⟨h1, (Option.some.inj hk).symm⟩
  refine ⟨fun i j x y hi hj hxy => ?_, fun k q hk => ?_⟩
  · obtain ⟨h1, rfl⟩ := lt i x hi
    obtain ⟨h2, rfl⟩ := lt j y hj
    exact h i j h1 h2 hxy
  · obtain ⟨h1, rfl⟩ := lt k q hk
    exact ⟨k, h1, rfl⟩
/-- writes -/
def st (σ : Sg) (q k : Nat) (v : Int32) : Sg := fun a b => if a = q then (if b = k then v else σ a b) else σ a b
def sr (σ : Sg) (q : Nat) (f : Nat → Int32) : Sg := fun a => if a = q then f else σ a
theorem st_o {σ : Sg} {q k : Nat} {v : Int32} (a : Nat) (h : a ≠ q) : st σ q k v a = σ a := by funext b; simp [st, h]
theorem sr_o {σ : Sg} {q : Nat} {f : Nat → Int32} (a : Nat) (h : a ≠ q) : sr σ q f a = σ a := by simp [sr, h]
theorem st_q {σ : Sg} {q k : Nat} {v : Int32} : st σ q k v q = upd (σ q) k v := by funext b; simp [st, upd]
theorem st_r {σ : Sg} {q k : Nat} {v : Int32} {a b : Nat} : st σ q k v a b = if a = q ∧ b = k then v else σ a b := by
  by_cases h : a = q <;> by_cases h2 : b = k <;> simp [st, h, h2]
/-- what kind an object is -/
def isB (q : Nat) : Prop := q = 1 ∨ q = 36 ∨ q = 72 ∨ q = 107
def isT (q : Nat) : Prop := kd q = 3 ∧ q < 148 ∧ kd (q + 1) = 6 ∧ ln (q + 1) = 8 ∧ kd (q + 2) = 6 ∧ ln (q + 2) = 2 ∧ kd (q + 3) = 6 ∧ ln (q + 3) = 2 ∧ kd (q + 4) = 6 ∧ ln (q + 4) = 2
def isA (n q : Nat) : Prop := kd q = 6 ∧ q < 153 ∧ ln q = n
def isK (k q : Nat) : Prop := kd q = k ∧ q < 153
theorem isT.k {q : Nat} (h : isT q) : isK 3 q := ⟨h.1, by have := h.2.1; omega⟩
theorem isT.a1 {q : Nat} (h : isT q) : isA 8 (q + 1) := ⟨h.2.2.1, by have := h.2.1; omega, h.2.2.2.1⟩
theorem isT.a2 {q : Nat} (h : isT q) : isA 2 (q + 2) := ⟨h.2.2.2.2.1, by have := h.2.1; omega, h.2.2.2.2.2.1⟩
theorem isT.a3 {q : Nat} (h : isT q) : isA 2 (q + 3) := ⟨h.2.2.2.2.2.2.1, by have := h.2.1; omega, h.2.2.2.2.2.2.2.1⟩
theorem isT.a4 {q : Nat} (h : isT q) : isA 2 (q + 4) := ⟨h.2.2.2.2.2.2.2.2.1, by have := h.2.1; omega, h.2.2.2.2.2.2.2.2.2⟩
theorem isB.k {q : Nat} (h : isB q) : isK 0 q := by rcases h with rfl | rfl | rfl | rfl <;> exact ⟨by decide, by decide⟩
theorem isB.a1 {q : Nat} (h : isB q) : isA 8 (q + 1) := by rcases h with rfl | rfl | rfl | rfl <;> exact ⟨by decide, by decide, by decide⟩
theorem isB.k2 {q : Nat} (h : isB q) : isK 10 (q + 2) := by rcases h with rfl | rfl | rfl | rfl <;> exact ⟨by decide, by decide⟩
theorem isB.k3 {q : Nat} (h : isB q) : isK 1 (q + 3) := by rcases h with rfl | rfl | rfl | rfl <;> exact ⟨by decide, by decide⟩
theorem isB.a4 {q : Nat} (h : isB q) : isA 80 (q + 3 + 1) := by rcases h with rfl | rfl | rfl | rfl <;> exact ⟨by decide, by decide, by decide⟩
theorem isB.t {q i : Nat} (h : isB q) (hi : i < 6) : isT (q + 2 + 3 + 5 * i) := by
  have h6 : i = 0 ∨ i = 1 ∨ i = 2 ∨ i = 3 ∨ i = 4 ∨ i = 5 := by omega
  rcases h with rfl | rfl | rfl | rfl <;> rcases h6 with rfl | rfl | rfl | rfl | rfl | rfl <;> (unfold isT; decide)
/-- statics: the six tables, the String constant -/
def snL : List String := ["RULE_LOWEST", "RULE_GREATEST", "RULE_FIRST", "SETTING_LOWEST", "SETTING_GREATEST", "SETTING_FIRST"]
def sn (k : Nat) : String := snL.getD k ""
def tbL : List (List Int32) := [[0, 1, 1, 0, 0, 1, 1, 1], [1000, 2000, 100, 2000, 20, 200, 5000, 5], [20, 100, 10, 40, 2, 30, 500, 3], [1, 1, 0, 1, 0, 0, 0, 0], [200, 200, 199, 20, 50, 50, 10, 500], [1, 1, 0, 1, 1, 50, 1, 0]]
def tb (k j : Nat) : Int32 := (tbL.getD k []).getD j 0
def ntb : List Cond := lw_tbl.filter (fun w => match w with | .methodLinkNest _ _ _ _ => true | .fieldLinkNest _ _ _ _ _ _ => true | _ => false)
def SK (Γ : GG) (U : State) (H : Heap) : Prop := va_T .int (gS Γ 6) (gX Γ).1 (fun j => .int ((gX Γ).2 j)) (AD Γ) U H
def KK (Γ : GG) (U : State) (H : Heap) : Prop := va_K (gD Γ) classes (gtys Γ) U ∧ (∀ w ∈ ntb, va_Nw w U) ∧ (∀ k, k < 6 → va_Z RX4 (sn k) "[I" (.ref (gS Γ k)) (AD Γ) U H ∧ va_T .int (gS Γ k) 8 (fun j => .int (tb k j)) (AD Γ) U H) ∧ SK Γ U H ∧ (∀ i j, i < 153 → j < 153 → Γ.1 i = Γ.1 j → i = j)
theorem ntb_tab {w : Cond} (h : w ∈ ntb) : (∃ a i x h', w = .methodLinkNest a i x h') ∨ ∃ a i b n d h', w = .fieldLinkNest a i b n d h' := by
  have h2 := (List.mem_filter.mp h).2
  cases w <;> first | (exact Or.inl ⟨_, _, _, _, rfl⟩) | (exact Or.inr ⟨_, _, _, _, _, _, rfl⟩) | (simp at h2)
theorem SK.kept {Γ : GG} {U : State} {H H1 : Heap} (h : SK Γ U H) (hq : ∀ a : Nat, a < H.size → ¬ AD Γ a → H1[a]? = H[a]?) : SK Γ U H1 := va_T.kept h hq
theorem KK.kept {Γ : GG} {U : State} {H H1 : Heap} (h : KK Γ U H) (hq : ∀ a : Nat, a < H.size → ¬ AD Γ a → H1[a]? = H[a]?) : KK Γ U H1 :=
  ⟨h.1, h.2.1, fun k hk => ⟨(h.2.2.1 k hk).1.kept hq, (h.2.2.1 k hk).2.kept hq⟩, h.2.2.2.1.kept hq, h.2.2.2.2⟩
theorem KK.warm {Γ : GG} {s U : State} {H : Heap} (hW : s.WarmedH U.vm) (h : KK Γ s H) : KK Γ U H := by
  refine ⟨va_K.moved hW.alike h.1, fun w hw => ?_, fun k hk => ⟨va_Z.moved hW.alike (h.2.2.1 k hk).1, va_T.moved hW.alike (h.2.2.1 k hk).2⟩, va_T.moved hW.alike h.2.2.2.1, h.2.2.2.2⟩
  have h1 := h.2.1 w hw
  rcases ntb_tab hw with ⟨a, i, x, h', rfl⟩ | ⟨a, i, b, n, d, h', rfl⟩
  · exact va_Nw.warmM hW h1
  · exact va_Nw.warmF hW h1
theorem KK.same {Γ : GG} {u U : State} {H : Heap} (hv : U.vm = u.vm) (h : KK Γ u H) : KK Γ U H := by
  have ha : u.vm.Alike U.vm := by rw [hv]; exact Vm.Alike.refl _
  refine ⟨va_K.moved ha h.1, fun w hw => ?_, fun k hk => ⟨va_Z.moved ha (h.2.2.1 k hk).1, va_T.moved ha (h.2.2.1 k hk).2⟩, va_T.moved ha h.2.2.2.1, h.2.2.2.2⟩
  have h1 := h.2.1 w hw
  rcases ntb_tab hw with ⟨a, i, x, h', rfl⟩ | ⟨a, i, b, n, d, h', rfl⟩
  · exact va_Nw.same rfl hv.symm h1
  · exact va_Nw.same rfl hv.symm h1
/-- what a method finds -/
def GI (Γ : GG) (σ : Sg) (U : State) : Prop := va_P (gD Γ) classes (pic Γ σ) U.heap ∧ KK Γ U U.heap
def Bd (Γ : GG) (σ : Sg) (s : State) (H : Heap) (locs : List Loc) : Prop := va_P (gD Γ) classes (pic Γ σ) H ∧ va_S (AD Γ) s.heap H locs
abbrev QI (Γ : GG) (res : Int32 × Sg) : Array Value → State → Outcome → State → Prop := va_Qi (fun (r : Int32) (u : Sg) => r = res.1 ∧ u = res.2) (fun u t => va_P (gD Γ) classes (pic Γ u) t.heap) (AD Γ)
abbrev QV (Γ : GG) (res : Int32 × Sg) : Array Value → State → Outcome → State → Prop := va_Qv (fun (u : Sg) => u = res.2) (fun u t => va_P (gD Γ) classes (pic Γ u) t.heap) (AD Γ)
def MX (own : String) (cc : ByteArray) (nL : Nat) (ret : Option FieldType) (p : Program) (s : State) (m : MethodId) (args : Array Value) (meth : Method) (c : Code) : Prop :=
  p.tables.exec = Jvm.exec ∧ c.code = cc ∧ c.maxLocals = nL ∧ s.vm.findClass own = some m.cls ∧ (∀ w ∈ gtb, w.before args s = true) ∧ meth.sig.returnType = ret ∧ meth.locks = false
abbrev WI (Γ : GG) (rm : Room) (p : Program) (l : Launch) (e : Env) (s : State) (m : MethodId) (args : Array Value) (below : List Frame) (meth : Method) (c : Code) (H : Heap) (locs : List Loc) (res : Int32 × Sg) (g : JFrame) : Prop := W p l e rm s m args below meth c H locs 0 0 (MQ below (QI Γ res) args s 0 0 (AD Γ)) g
abbrev WV (Γ : GG) (rm : Room) (p : Program) (l : Launch) (e : Env) (s : State) (m : MethodId) (args : Array Value) (below : List Frame) (meth : Method) (c : Code) (H : Heap) (locs : List Loc) (res : Int32 × Sg) (g : JFrame) : Prop := W p l e rm s m args below meth c H locs 0 0 (MQ below (QV Γ res) args s 0 0 (AD Γ)) g
theorem ent_0 {Γ : GG} {σ : Sg} {q : Nat} (h : kd q = 0) : ent Γ σ q = .inr (0, fs0 Γ σ q) := by simp [ent, h]
theorem ent_1 {Γ : GG} {σ : Sg} {q : Nat} (h : kd q = 1) : ent Γ σ q = .inr (1, fs1 Γ σ q) := by simp [ent, h]
theorem ent_2 {Γ : GG} {σ : Sg} {q : Nat} (h : kd q = 2) : ent Γ σ q = .inr (2, fs2 Γ σ q) := by simp [ent, h]
theorem ent_3 {Γ : GG} {σ : Sg} {q : Nat} (h : kd q = 3) : ent Γ σ q = .inr (3, fs3 Γ σ q) := by simp [ent, h]
theorem ent_4 {Γ : GG} {σ : Sg} {q : Nat} (h : kd q = 4) : ent Γ σ q = .inr (4, fs4 Γ σ q) := by simp [ent, h]
theorem ent_6 {Γ : GG} {σ : Sg} {q : Nat} (h : kd q = 6) : ent Γ σ q = .inl (gA Γ 0, ln q, .inl (σ q)) := by simp [ent, h]
theorem ent_7 {Γ : GG} {σ : Sg} {q : Nat} (h : kd q = 7) : ent Γ σ q = .inl (gA Γ 1, ln q, .inl (σ q)) := by simp [ent, h]
theorem ent_8 {Γ : GG} {σ : Sg} {q : Nat} (h : kd q = 8) : ent Γ σ q = .inl (gA Γ 2, ln q, .inl (σ q)) := by simp [ent, h]
theorem ent_9 {Γ : GG} {σ : Sg} {q : Nat} (h : kd q = 9) : ent Γ σ q = .inl (gA Γ 3, 2, .inr (.inr (.inr (.inr (fun k => some (Γ.1 (q + 1 + 35 * k))))))) := by simp [ent, h]
theorem ent_10 {Γ : GG} {σ : Sg} {q : Nat} (h : kd q = 10) : ent Γ σ q = .inl (gA Γ 4, 6, .inr (.inr (.inr (.inr (fun k => some (Γ.1 (q + 3 + 5 * k))))))) := by simp [ent, h]
theorem fs0_set {Γ : GG} {σ : Sg} {q k : Nat} {v : Int32} (h : k = 3 ∨ k = 4 ∨ k = 5 ∨ k = 6 ∨ k = 7 ∨ k = 8 ∨ k = 9 ∨ k = 10 ∨ k = 11 ∨ k = 12) : (fs0 Γ σ q).set k (.int v) = fs0 Γ (st σ q k v) q := by
  rcases h with rfl | rfl | rfl | rfl | rfl | rfl | rfl | rfl | rfl | rfl <;> simp [fs0, st]
theorem fs1_set {Γ : GG} {σ : Sg} {q k : Nat} {v : Int32} (h : k = 1) : (fs1 Γ σ q).set k (.int v) = fs1 Γ (st σ q k v) q := by
  subst h; simp [fs1, st]
theorem fs2_set {Γ : GG} {σ : Sg} {q k : Nat} {v : Int32} (h : k = 1 ∨ k = 2 ∨ k = 3) : (fs2 Γ σ q).set k (.int v) = fs2 Γ (st σ q k v) q := by
  rcases h with rfl | rfl | rfl <;> simp [fs2, st]
theorem fs3_set {Γ : GG} {σ : Sg} {q k : Nat} {v : Int32} (h : k = 4 ∨ k = 5 ∨ k = 6 ∨ k = 7 ∨ k = 8 ∨ k = 9 ∨ k = 10 ∨ k = 11 ∨ k = 12 ∨ k = 13 ∨ k = 14 ∨ k = 15) : (fs3 Γ σ q).set k (.int v) = fs3 Γ (st σ q k v) q := by
  rcases h with rfl | rfl | rfl | rfl | rfl | rfl | rfl | rfl | rfl | rfl | rfl | rfl <;> simp [fs3, st]
theorem in_X0 : ∀ w ∈ u_ws RX0 TX0 13, w ∈ gtb := fun w h => gtb_of ((show ∀ w ∈ u_ws RX0 TX0 13, w ∈ lw_tbl by decide +kernel) w h) ((show ∀ w ∈ u_ws RX0 TX0 13, goodWord w = true by decide +kernel) w h)
theorem in_X1 : ∀ w ∈ u_ws RX1 TX1 2, w ∈ gtb := fun w h => gtb_of ((show ∀ w ∈ u_ws RX1 TX1 2, w ∈ lw_tbl by decide +kernel) w h) ((show ∀ w ∈ u_ws RX1 TX1 2, goodWord w = true by decide +kernel) w h)
theorem in_X2 : ∀ w ∈ u_ws RX2 TX2 9, w ∈ gtb := fun w h => gtb_of ((show ∀ w ∈ u_ws RX2 TX2 9, w ∈ lw_tbl by decide +kernel) w h) ((show ∀ w ∈ u_ws RX2 TX2 9, goodWord w = true by decide +kernel) w h)
theorem in_X3 : ∀ w ∈ u_ws RX3 TX3 16, w ∈ gtb := fun w h => gtb_of ((show ∀ w ∈ u_ws RX3 TX3 16, w ∈ lw_tbl by decide +kernel) w h) ((show ∀ w ∈ u_ws RX3 TX3 16, goodWord w = true by decide +kernel) w h)
theorem in_X4 : ∀ w ∈ u_ws RX4 TX4 5, w ∈ gtb := fun w h => gtb_of ((show ∀ w ∈ u_ws RX4 TX4 5, w ∈ lw_tbl by decide +kernel) w h) ((show ∀ w ∈ u_ws RX4 TX4 5, goodWord w = true by decide +kernel) w h)
end
section
/-! ROWS over the picture -/
section RW
variable {p : Program} {l : Launch} {e : Env} {R : Room} {s : State} {m : MethodId} {args : Array Value} {below : List Frame} {meth : Method} {c : Code} {H : Heap} {locs : List Loc} {cells slots : Nat} {Q : State → Prop}
variable {cc : ByteArray} {pc : Nat} {ls : Array Slot} {rest : List Value} {Γ : GG} {σ : Sg} {own : String} {nL : Nat} {ret : Option FieldType}
theorem x_get {q ci N : Nat} {C : String} {T : u_T} {fs : List Value} (M : MX own cc nL ret p s m args meth c) (K : KK Γ s s.heap) (hB : Bd Γ σ s H locs) (hq : q < 153) (he : ent Γ σ q = .inr (ci, fs)) (hc : classes[ci]? = some (C, T, N)) (hin : ∀ w ∈ u_ws C T N, w ∈ gtb) {index : Nat} (k : Nat) (hk : k < N) (hC : (T k).1 = C) (hlink : Cond.fieldLink own index C (T k).2.1 (T k).2.2.1 ∈ gtb) {v : Value} (hv : fs[k]? = some v) (hdg : decode cc pc = .ok (.getfield index, 3))
    (kk : W p l e R s m args below meth c H locs cells slots Q (F0 m (pc + 3) ls (v :: rest))) : W p l e R s m args below meth c H locs cells slots Q (F0 m pc ls (.ref (Γ.1 q) :: rest)) := by
  obtain ⟨hx, hb, hml, hown, hts, -⟩ := M
  exact va_get (D := gD Γ) (cl := classes) (tys := gtys Γ) (ws := pic Γ σ) (C := C) (T := T) (N := N) (ci := ci) hx hb hts hin hown K.1 hB.1 q (by rw [pic_get hq, he]) hc k hk (hts _ hlink) (fun x h => by rw [hC] at h; exact h) hv hdg kk
theorem x_put {q ci N : Nat} {C : String} {T : u_T} {fs : List Value} {σ' : Sg} (M : MX own cc nL ret p s m args meth c) (K : KK Γ s s.heap) (hB : Bd Γ σ s H locs) (hq : q < 153) (he : ent Γ σ q = .inr (ci, fs)) (hc : classes[ci]? = some (C, T, N)) (hin : ∀ w ∈ u_ws C T N, w ∈ gtb) (ty0 : Nat → FieldType) (hty : ∀ k, k < N → parseFieldDescriptor (T k).2.2.1 = some (ty0 k)) (hnm : ∀ a, a < N → ∀ b, b < N → a ≠ b → (T a).2.1 ≠ (T b).2.1) {index : Nat} (k : Nat) (hk : k < N) (hC : (T k).1 = C) (hfin : (T k).2.2.2 = false) (hlink : Cond.fieldLink own index C (T k).2.1 (T k).2.2.1 ∈ gtb) {v : Value} (hn : narrow (ty0 k) v = v) (hfit : fits (ty0 k) v = true) (hl : k < fs.length) (ho : ∀ a, a ≠ q → σ' a = σ a) (he' : ent Γ σ' q = .inr (ci, fs.set k v)) (hdg : decode cc pc = .ok (.putfield index, 3))
    (kk : ∀ (H1 : Heap) (locs1 : List Loc), Bd Γ σ' s H1 locs1 → W p l e R s m args below meth c H1 locs1 cells slots Q (F0 m (pc + 3) ls rest)) : W p l e R s m args below meth c H locs cells slots Q (F0 m pc ls (v :: .ref (Γ.1 q) :: rest)) := by
  obtain ⟨hx, hb, hml, hown, hts, -⟩ := M
  refine va_put (D := gD Γ) (cl := classes) (tys := gtys Γ) (ws := pic Γ σ) (A := AD Γ) (C := C) (T := T) (N := N) (ci := ci) hx hb hts hin ty0 hty hnm hown K.1 hB.1 (pic_D K.2.2.2.2 σ) hB.2 q (by rw [pic_get hq, he]) hc k hk (hts _ hlink) (fun x h => by rw [hC] at h; exact h) hfin (hty k hk) hn hfit hl hdg (fun H1 locs1 h1 _ h3 => ?_)
  rw [pic_set ho he'] at h1
  exact kk H1 locs1 ⟨h1, h3⟩
theorem x_iald {q n : Nat} (M : MX own cc nL ret p s m args meth c) (K : KK Γ s s.heap) (hB : Bd Γ σ s H locs) (hq : isA n q) {i : Int32} (hin : vp_in i n) (hdg : decode cc pc = .ok (.iaload, 1))
    (kk : W p l e R s m args below meth c H locs cells slots Q (F0 m (pc + 1) ls (.int (σ q i.toNatClampNeg) :: rest))) : W p l e R s m args below meth c H locs cells slots Q (F0 m pc ls (.int i :: .ref (Γ.1 q) :: rest)) :=
  va_iald (D := gD Γ) (cl := classes) (tys := gtys Γ) (ws := pic Γ σ) M.1 M.2.1 K.1 hB.1 q 0 (by rw [pic_get hq.2.1, ent_6 hq.1, hq.2.2]) rfl hin hdg kk
theorem x_iast {q n : Nat} (M : MX own cc nL ret p s m args meth c) (K : KK Γ s s.heap) (hB : Bd Γ σ s H locs) (hq : isA n q) {i x : Int32} (hin : vp_in i n) (hdg : decode cc pc = .ok (.iastore, 1))
    (kk : ∀ (H1 : Heap) (locs1 : List Loc), Bd Γ (st σ q i.toNatClampNeg x) s H1 locs1 → W p l e R s m args below meth c H1 locs1 cells slots Q (F0 m (pc + 1) ls rest)) : W p l e R s m args below meth c H locs cells slots Q (F0 m pc ls (.int x :: .int i :: .ref (Γ.1 q) :: rest)) := by
  refine va_iast (D := gD Γ) (cl := classes) (tys := gtys Γ) (ws := pic Γ σ) (A := AD Γ) M.1 M.2.1 K.1 hB.1 (pic_D K.2.2.2.2 σ) hB.2 q 0 (by rw [pic_get hq.2.1, ent_6 hq.1, hq.2.2]) rfl hin hdg (fun H1 locs1 h1 _ h3 => ?_)
  rw [pic_set (σ' := st σ q i.toNatClampNeg x) (fun a h => st_o a h) (by rw [ent_6 hq.1, hq.2.2, st_q])] at h1
  exact kk H1 locs1 ⟨h1, h3⟩
theorem x_cald {q : Nat} (M : MX own cc nL ret p s m args meth c) (K : KK Γ s s.heap) (hB : Bd Γ σ s H locs) (hq : isK 7 q) {i : Int32} (hin : vp_in i (ln q)) (hdg : decode cc pc = .ok (.caload, 1))
    (kk : W p l e R s m args below meth c H locs cells slots Q (F0 m (pc + 1) ls (.int (σ q i.toNatClampNeg) :: rest))) : W p l e R s m args below meth c H locs cells slots Q (F0 m pc ls (.int i :: .ref (Γ.1 q) :: rest)) :=
  va_cald (D := gD Γ) (cl := classes) (tys := gtys Γ) (ws := pic Γ σ) M.1 M.2.1 K.1 hB.1 q 1 (by rw [pic_get hq.2, ent_7 hq.1]) rfl hin hdg kk
theorem x_cast {q : Nat} (M : MX own cc nL ret p s m args meth c) (K : KK Γ s s.heap) (hB : Bd Γ σ s H locs) (hq : isK 7 q) {i x : Int32} (hin : vp_in i (ln q)) (hdg : decode cc pc = .ok (.castore, 1))
    (kk : ∀ (H1 : Heap) (locs1 : List Loc), Bd Γ (st σ q i.toNatClampNeg (vp_nar .char x)) s H1 locs1 → W p l e R s m args below meth c H1 locs1 cells slots Q (F0 m (pc + 1) ls rest)) : W p l e R s m args below meth c H locs cells slots Q (F0 m pc ls (.int x :: .int i :: .ref (Γ.1 q) :: rest)) := by
  refine va_cast (D := gD Γ) (cl := classes) (tys := gtys Γ) (ws := pic Γ σ) (A := AD Γ) M.1 M.2.1 K.1 hB.1 (pic_D K.2.2.2.2 σ) hB.2 q 1 (by rw [pic_get hq.2, ent_7 hq.1]) rfl hin hdg (fun H1 locs1 h1 _ h3 => ?_)
  rw [pic_set (σ' := st σ q i.toNatClampNeg (vp_nar .char x)) (fun a h => st_o a h) (by rw [ent_7 hq.1, st_q])] at h1
  exact kk H1 locs1 ⟨h1, h3⟩
theorem x_zald {q : Nat} (M : MX own cc nL ret p s m args meth c) (K : KK Γ s s.heap) (hB : Bd Γ σ s H locs) (hq : isK 8 q) {i : Int32} (hin : vp_in i (ln q)) (hdg : decode cc pc = .ok (.baload, 1))
    (kk : W p l e R s m args below meth c H locs cells slots Q (F0 m (pc + 1) ls (.int (σ q i.toNatClampNeg) :: rest))) : W p l e R s m args below meth c H locs cells slots Q (F0 m pc ls (.int i :: .ref (Γ.1 q) :: rest)) :=
  va_zald (D := gD Γ) (cl := classes) (tys := gtys Γ) (ws := pic Γ σ) M.1 M.2.1 K.1 hB.1 q 2 (by rw [pic_get hq.2, ent_8 hq.1]) rfl hin hdg kk
theorem x_zast {q : Nat} (M : MX own cc nL ret p s m args meth c) (K : KK Γ s s.heap) (hB : Bd Γ σ s H locs) (hq : isK 8 q) {i x : Int32} (hin : vp_in i (ln q)) (hdg : decode cc pc = .ok (.bastore, 1))
    (kk : ∀ (H1 : Heap) (locs1 : List Loc), Bd Γ (st σ q i.toNatClampNeg (vp_nar .boolean x)) s H1 locs1 → W p l e R s m args below meth c H1 locs1 cells slots Q (F0 m (pc + 1) ls rest)) : W p l e R s m args below meth c H locs cells slots Q (F0 m pc ls (.int x :: .int i :: .ref (Γ.1 q) :: rest)) := by
  refine va_zast (D := gD Γ) (cl := classes) (tys := gtys Γ) (ws := pic Γ σ) (A := AD Γ) M.1 M.2.1 K.1 hB.1 (pic_D K.2.2.2.2 σ) hB.2 q 2 (by rw [pic_get hq.2, ent_8 hq.1]) rfl hin hdg (fun H1 locs1 h1 _ h3 => ?_)
  rw [pic_set (σ' := st σ q i.toNatClampNeg (vp_nar .boolean x)) (fun a h => st_o a h) (by rw [ent_8 hq.1, st_q])] at h1
  exact kk H1 locs1 ⟨h1, h3⟩
theorem x_alen {q n : Nat} (M : MX own cc nL ret p s m args meth c) (K : KK Γ s s.heap) (hB : Bd Γ σ s H locs) (hq : isA n q) {v : Int32} (hv : Int32.ofNat n = v) (hdg : decode cc pc = .ok (.arraylength, 1))
    (kk : W p l e R s m args below meth c H locs cells slots Q (F0 m (pc + 1) ls (.int v :: rest))) : W p l e R s m args below meth c H locs cells slots Q (F0 m pc ls (.ref (Γ.1 q) :: rest)) :=
  va_alen (D := gD Γ) (cl := classes) (tys := gtys Γ) (ws := pic Γ σ) (x := (n, .inl (σ q))) M.1 M.2.1 K.1 hB.1 q 0 (by rw [pic_get hq.2.1, ent_6 hq.1, hq.2.2]) (ty := .int) rfl hv hdg kk
theorem x_aaldT {q : Nat} (M : MX own cc nL ret p s m args meth c) (K : KK Γ s s.heap) (hB : Bd Γ σ s H locs) (hq : isK 10 q) {i : Int32} (hin : vp_in i 6) (hdg : decode cc pc = .ok (.aaload, 1))
    (kk : W p l e R s m args below meth c H locs cells slots Q (F0 m (pc + 1) ls (.ref (Γ.1 (q + 3 + 5 * i.toNatClampNeg)) :: rest))) : W p l e R s m args below meth c H locs cells slots Q (F0 m pc ls (.int i :: .ref (Γ.1 q) :: rest)) :=
  va_aldq (D := gD Γ) (cl := classes) (tys := gtys Γ) (ws := pic Γ σ) (f := fun k => some (Γ.1 (q + 3 + 5 * k))) M.1 M.2.1 K.1 hB.1 q 4 (by rw [pic_get hq.2, ent_10 hq.1]) rfl hin hdg kk
theorem x_aaldB {q : Nat} (M : MX own cc nL ret p s m args meth c) (K : KK Γ s s.heap) (hB : Bd Γ σ s H locs) (hq : isK 9 q) {i : Int32} (hin : vp_in i 2) (hdg : decode cc pc = .ok (.aaload, 1))
    (kk : W p l e R s m args below meth c H locs cells slots Q (F0 m (pc + 1) ls (.ref (Γ.1 (q + 1 + 35 * i.toNatClampNeg)) :: rest))) : W p l e R s m args below meth c H locs cells slots Q (F0 m pc ls (.int i :: .ref (Γ.1 q) :: rest)) :=
  va_aldq (D := gD Γ) (cl := classes) (tys := gtys Γ) (ws := pic Γ σ) (f := fun k => some (Γ.1 (q + 1 + 35 * k))) M.1 M.2.1 K.1 hB.1 q 3 (by rw [pic_get hq.2, ent_9 hq.1]) rfl hin hdg kk
theorem x_copy {q0 q1 n0 n1 : Nat} (M : MX own cc nL ret p s m args meth c) (K : KK Γ s s.heap) (hB : Bd Γ σ s H locs) (hls : ls.size = nL) (hq0 : isA n0 q0) (hq1 : isA n1 q1) {index : Nat} (hlink : Cond.methodLink own index arraycopyName ∈ gtb) (hnat : Cond.native arraycopyName ∈ gtb) (hstat : Cond.static arraycopyName ∈ gtb) (hini : Cond.initialized "java/lang/System" ∈ gtb)
    {sp dp n : Int32} (h1 : ¬ sp < 0) (h2 : ¬ dp < 0) (h3 : ¬ n < 0) (h4 : sp.toNatClampNeg + n.toNatClampNeg ≤ n0) (h5 : dp.toNatClampNeg + n.toNatClampNeg ≤ n1)
    (hframes : 1 ≤ R.frames) (hlocals : (rest.map fun v => v.category).sum + (nativeFrameWords "java/lang/System" "arraycopy" 5 + 11) ≤ R.locals) (hdg : decode cc pc = .ok (.invokestatic index, 3))
    (kk : ∀ (H1 : Heap) (locs1 : List Loc), Bd Γ (sr σ q1 (va_cpy (σ q0) (σ q1) sp.toNatClampNeg dp.toNatClampNeg n.toNatClampNeg)) s H1 locs1 → W p l e R s m args below meth c H1 locs1 cells slots Q (F0 m (pc + 3) ls rest)) : W p l e R s m args below meth c H locs cells slots Q (F0 m pc ls (.int n :: .int dp :: .ref (Γ.1 q1) :: .int sp :: .ref (Γ.1 q0) :: rest)) := by
  obtain ⟨hx, hb, hml, hown, hts, -⟩ := M
  refine va_copyi (D := gD Γ) (cl := classes) (tys := gtys Γ) (ws := pic Γ σ) (A := AD Γ) (ty := .int) hx hb (hml.trans hls.symm) hown (hts _ hlink) (hts _ hnat) (hts _ hstat) (hts _ hini) K.1 hB.1 (pic_D K.2.2.2.2 σ) hB.2 q0 q1 0 0 (by rw [pic_get hq0.2.1, ent_6 hq0.1, hq0.2.2]) (by rw [pic_get hq1.2.1, ent_6 hq1.1, hq1.2.2]) rfl rfl rfl h1 h2 h3 h4 h5 (fun _ _ => rfl) hframes hlocals hdg (fun H1 locs1 g1 _ g3 => ?_)
  rw [pic_set (σ' := sr σ q1 (va_cpy (σ q0) (σ q1) sp.toNatClampNeg dp.toNatClampNeg n.toNatClampNeg)) (fun a h => sr_o a h) (by rw [ent_6 hq1.1, hq1.2.2]; simp [sr])] at g1
  exact kk H1 locs1 ⟨g1, g3⟩
theorem x_gets {index : Nat} (M : MX own cc nL ret p s m args meth c) (K : KK Γ s s.heap) (hB : Bd Γ σ s H locs) (k : Nat) (hk : k < 6) (hlink : Cond.fieldLink own index RX4 (sn k) "[I" ∈ gtb) (hdg : decode cc pc = .ok (.getstatic index, 3))
    (kk : W p l e R s m args below meth c H locs cells slots Q (F0 m (pc + 3) ls (.ref (gS Γ k) :: rest))) : W p l e R s m args below meth c H locs cells slots Q (F0 m pc ls rest) :=
  va_gets M.1 M.2.1 (K.2.2.1 k hk).1 hB.2 M.2.2.2.1 (M.2.2.2.2.1 _ hlink) (fun x h => h) hdg kk
theorem x_ti (M : MX own cc nL ret p s m args meth c) (K : KK Γ s s.heap) (hB : Bd Γ σ s H locs) {k : Nat} (hk : k < 6) {i : Int32} (hin : vp_in i 8) (hdg : decode cc pc = .ok (.iaload, 1))
    (kk : W p l e R s m args below meth c H locs cells slots Q (F0 m (pc + 1) ls (.int (tb k i.toNatClampNeg) :: rest))) : W p l e R s m args below meth c H locs cells slots Q (F0 m pc ls (.int i :: .ref (gS Γ k) :: rest)) :=
  va_ti M.1 M.2.1 (K.2.2.1 k hk).2 hB.2 hin rfl hdg kk
theorem x_tlen (M : MX own cc nL ret p s m args meth c) (K : KK Γ s s.heap) (hB : Bd Γ σ s H locs) {k : Nat} (hk : k < 6) (hdg : decode cc pc = .ok (.arraylength, 1))
    (kk : W p l e R s m args below meth c H locs cells slots Q (F0 m (pc + 1) ls (.int 8 :: rest))) : W p l e R s m args below meth c H locs cells slots Q (F0 m pc ls (.ref (gS Γ k) :: rest)) :=
  va_tlen M.1 M.2.1 (K.2.2.1 k hk).2 hB.2 rfl hdg kk
theorem x_max {index : Nat} (M : MX own cc nL ret p s m args meth c) (hls : ls.size = nL) (hlink : Cond.methodLink own index Lib.Math.max.name ∈ gtb) (hstat : Cond.static Lib.Math.max.name ∈ gtb) (hini : Cond.initialized "java/lang/Math" ∈ gtb) (hcode : Cond.code Lib.Math.max.name Lib.Math.max.code 2 (some .int) ∈ gtb)
    (hframes : 1 ≤ R.frames) (hlocals : (rest.map fun v => v.category).sum + 13 ≤ R.locals) (hc : cells ≤ R.cells) (hs : slots ≤ R.slots) {x y : Int32} (hdg : decode cc pc = .ok (.invokestatic index, 3))
    (kk : W p l e R s m args below meth c H locs cells slots Q (F0 m (pc + 3) ls (.int (if x < y then y else x) :: rest))) : W p l e R s m args below meth c H locs cells slots Q (F0 m pc ls (.int y :: .int x :: rest)) := by
  obtain ⟨hx, hb, hml, hown, hts, -⟩ := M
  exact va_mmax hx hb (hml.trans hls.symm) hown (hts _ hlink) (hts _ hstat) (hts _ hini) (hts _ hcode) hframes hlocals hc hs hdg kk
theorem x_ldc {index : Nat} {v : Int32} (M : MX own cc nL ret p s m args meth c) (hc : Cond.constant own index v ∈ gtb) (hdg : decode cc pc = .ok (.ldc index, 2)) (kk : W p l e R s m args below meth c H locs cells slots Q (F0 m (pc + 2) ls (.int v :: rest))) : W p l e R s m args below meth c H locs cells slots Q (F0 m pc ls rest) :=
  lv_ldc M.1 M.2.1 M.2.2.2.1 (M.2.2.2.2.1 _ hc) hdg kk
theorem x_ldc2 {index : Nat} {v : Int64} (M : MX own cc nL ret p s m args meth c) (hc : Cond.constantLong own index v ∈ gtb) (hdg : decode cc pc = .ok (.ldc2_w index, 3)) (kk : W p l e R s m args below meth c H locs cells slots Q (F0 m (pc + 3) ls (.long v :: rest))) : W p l e R s m args below meth c H locs cells slots Q (F0 m pc ls rest) :=
  lv_ldc2 M.1 M.2.1 M.2.2.2.1 (M.2.2.2.2.1 _ hc) hdg kk
/-- what the tables say of a method that is called: virtual, static -/
def CYv (y : MethodName) (b : ByteArray) (n : Nat) (r : Option FieldType) (np : Nat) : Prop := Cond.code y b n r ∈ gtb ∧ Cond.instanceMethod y ∈ gtb ∧ Cond.selects y.cls y y ∈ gtb ∧ Cond.initialized y.cls ∈ gtb ∧ y.cls ≠ "java/lang/invoke/MethodHandle" ∧ y.cls ≠ "java/lang/invoke/VarHandle" ∧ (parseMethodDescriptor y.desc).map (fun d => d.parameters.length) = some np
def CYs (y : MethodName) (b : ByteArray) (n : Nat) (r : Option FieldType) (np : Nat) : Prop := Cond.code y b n r ∈ gtb ∧ Cond.static y ∈ gtb ∧ Cond.initialized y.cls ∈ gtb ∧ y.cls ≠ "java/lang/invoke/MethodHandle" ∧ y.cls ≠ "java/lang/invoke/VarHandle" ∧ (parseMethodDescriptor y.desc).map (fun d => d.parameters.length) = some np
/-- a callee's room fits the caller's -/
def RF (rm2 R : Room) (n2 : Nat) : Prop := rm2.cells = 0 ∧ rm2.slots = 0 ∧ rm2.frames + 1 ≤ R.frames ∧ 8 + (n2 + 11) + rm2.locals ≤ R.locals
theorem GI_blind {av : List Value} : FrameBlind (va_Pc av (GI Γ σ)) := fun a U g mk q => ⟨q.1, q.2.1, KK.same (u := U) (U := U.calling g mk a) rfl q.2.2⟩
theorem GI_of (K : KK Γ s s.heap) (hB : Bd Γ σ s H locs) {U : State} (hU : U.heap = H) (hW : s.WarmedH U.vm) : GI Γ σ U := ⟨by rw [hU]; exact hB.1, by rw [hU]; exact (KK.warm hW K).kept hB.2.2.1⟩
theorem x_recv {q ci N : Nat} {C : String} {T : u_T} {fs : List Value} (K : KK Γ s s.heap) (hB : Bd Γ σ s H locs) (hq : q < 153) (he : ent Γ σ q = .inr (ci, fs)) (hc : classes[ci]? = some (C, T, N)) : ∃ cell : Cell, H[Γ.1 q]? = some cell ∧ cell.vm.isStatics = false ∧ s.vm.findClass C = some cell.cls :=
  va_recv (q := (C, T, N)) K.1 hB.1 hc (q0 := q) (by rw [pic_get hq, he])
variable {y : MethodName} {b2 : ByteArray} {n2 np : Nat} {r2 : Option FieldType} {rm2 : Room} {index q ci : Nat} {res : Int32 × Sg} {stk : List Value}
theorem x_runV {adr : Nat} {Qc : Array Value → State → Outcome → State → Prop} (M : MX own cc nL ret p s m args meth c) (K : KK Γ s s.heap) (hB : Bd Γ σ s H locs) (hls : ls.size = nL) (As : List Value) {rest : List Value} (hst : stk = As.reverse ++ .ref (adr) :: rest) (hM : Met l y (Cond.code y b2 n2 r2 :: gtb) rm2 (va_Pc (.ref (adr) :: As) (GI Γ σ)) Qc 0 0 (AD Γ)) (hy : CYv y b2 n2 r2 As.length)
    (hrv : ∃ cell : Cell, H[adr]? = some cell ∧ cell.vm.isStatics = false ∧ s.vm.findClass y.cls = some cell.cls) (hlink : Cond.methodLink own index y ∈ gtb) (hR : RF rm2 R n2) (hcat : (rest.map fun v => v.category).sum ≤ 8) (hf : cells ≤ R.cells ∧ slots ≤ R.slots) (hdg : decode cc pc = .ok (.invokevirtual index, 3)) :
    va_Run p l e R s m args below meth c H locs cells slots 0 0 (F0 m pc ls stk) rest (Qc (Value.ref (adr) :: As).toArray) (AD Γ) := by
  subst hst
  obtain ⟨hx, hb, hml, hown, hts, -⟩ := M
  obtain ⟨h1, h2, h3, h4, h5, h6, h7⟩ := hy
  exact va_runV (Ts := gtb) (own := own) (C := y.cls) ⟨hx, hb, hml, hown, hts⟩ hM ⟨callB_of As.length hts (gtb_in h1) rfl hR.1 hR.2.1 (hts _ h4) (hts _ hlink) ⟨h5, h6, h7⟩ hR.2.2, hts _ h2, hts _ h3⟩ ⟨GI_blind, hrv, fun U hU hW => ⟨rfl, GI_of K hB hU hW⟩⟩ rfl rfl hls rfl (lv_room hcat) hdg hf
theorem x_runS {Qc : Array Value → State → Outcome → State → Prop} (M : MX own cc nL ret p s m args meth c) (K : KK Γ s s.heap) (hB : Bd Γ σ s H locs) (hls : ls.size = nL) (As : List Value) {rest : List Value} (hst : stk = As.reverse ++ rest) (hM : Met l y (Cond.code y b2 n2 r2 :: gtb) rm2 (va_Pc As (GI Γ σ)) Qc 0 0 (AD Γ)) (hy : CYs y b2 n2 r2 As.length)
    (hlink : Cond.methodLink own index y ∈ gtb) (hR : RF rm2 R n2) (hcat : (rest.map fun v => v.category).sum ≤ 8) (hf : cells ≤ R.cells ∧ slots ≤ R.slots) (hdg : decode cc pc = .ok (.invokestatic index, 3)) :
    va_Run p l e R s m args below meth c H locs cells slots 0 0 (F0 m pc ls stk) rest (Qc As.toArray) (AD Γ) := by
  subst hst
  obtain ⟨hx, hb, hml, hown, hts, -⟩ := M
  obtain ⟨h1, h2, h4, h5, h6, h7⟩ := hy
  exact va_runS (Ts := gtb) (own := own) ⟨hx, hb, hml, hown, hts⟩ hM ⟨callB_of As.length hts (gtb_in h1) rfl hR.1 hR.2.1 (hts _ h4) (hts _ hlink) ⟨h5, h6, h7⟩ hR.2.2, hts _ h2⟩ ⟨GI_blind, fun U hU hW => ⟨rfl, GI_of K hB hU hW⟩⟩ rfl rfl hls rfl (lv_room hcat) hdg hf
theorem x_runSN {host : String} {Qc : Array Value → State → Outcome → State → Prop} (M : MX own cc nL ret p s m args meth c) (K : KK Γ s s.heap) (hB : Bd Γ σ s H locs) (hls : ls.size = nL) (As : List Value) {rest : List Value} (hst : stk = As.reverse ++ rest) (hM : Met l y (Cond.code y b2 n2 r2 :: gtb) rm2 (va_Pc As (GI Γ σ)) Qc 0 0 (AD Γ)) (hy : CYs y b2 n2 r2 As.length)
    (hlink : Cond.methodLinkNest own index y host ∈ ntb) (hR : RF rm2 R n2) (hcat : (rest.map fun v => v.category).sum ≤ 8) (hf : cells ≤ R.cells ∧ slots ≤ R.slots) (hdg : decode cc pc = .ok (.invokestatic index, 3)) :
    va_Run p l e R s m args below meth c H locs cells slots 0 0 (F0 m pc ls stk) rest (Qc As.toArray) (AD Γ) := by
  subst hst
  obtain ⟨hx, hb, hml, hown, hts, -⟩ := M
  obtain ⟨h1, h2, h4, h5, h6, h7⟩ := hy
  exact va_runSN (Ts := gtb) (own := own) (host := host) ⟨hx, hb, hml, hown, hts⟩ hM ⟨va_cnB As.length hts (gtb_in h1) rfl hR.1 hR.2.1 (K.2.1 _ hlink) (hts _ h4) ⟨h5, h6, h7⟩ hR.2.2, hts _ h2, trivial⟩ ⟨GI_blind, fun U hU hW => ⟨rfl, GI_of K hB hU hW⟩⟩ rfl rfl hls rfl (lv_room hcat) hdg hf
theorem x_callI {a : Array Value} {st0 : List Value} (hr : va_Run p l e R s m args below meth c H locs cells slots 0 0 (F0 m pc ls st0) rest (QI Γ res a) (AD Γ)) (hB : Bd Γ σ s H locs)
    (kk : ∀ (H1 : Heap) (locs1 : List Loc), Bd Γ res.2 s H1 locs1 → W p l e R s m args below meth c H1 locs1 cells slots Q (F0 m (pc + 3) ls (.int res.1 :: rest))) : W p l e R s m args below meth c H locs cells slots Q (F0 m pc ls st0) := by
  refine va_calli hr hB.2 (fun q _ h => h) (fun q h => h) (fun r u t H1 locs1 ht hvm hw hP hz1 hk1 hS => ?_)
  obtain ⟨rfl, rfl⟩ := hw
  rw [ht] at hP
  exact kk H1 locs1 ⟨hP, hS⟩
theorem x_callV {a : Array Value} {st0 : List Value} (hr : va_Run p l e R s m args below meth c H locs cells slots 0 0 (F0 m pc ls st0) rest (QV Γ res a) (AD Γ)) (hB : Bd Γ σ s H locs)
    (kk : ∀ (H1 : Heap) (locs1 : List Loc), Bd Γ res.2 s H1 locs1 → W p l e R s m args below meth c H1 locs1 cells slots Q (F0 m (pc + 3) ls rest)) : W p l e R s m args below meth c H locs cells slots Q (F0 m pc ls st0) := by
  refine va_callv hr hB.2 (fun q _ h => h) (fun q h => h) (fun u t H1 locs1 ht hvm hw hP hz1 hk1 hS => ?_)
  subst hw
  rw [ht] at hP
  exact kk H1 locs1 ⟨hP, hS⟩
theorem x_iret {v : Int32} {rm : Room} (M : MX own cc nL (some .int) p s m args meth c) (hB : Bd Γ σ s H locs) (hr : (v, σ) = res) (hdg : decode cc pc = .ok (.ireturn, 1)) : WI Γ rm p l e s m args below meth c H locs res (F0 m pc ls [.int v]) := by
  subst hr
  exact W.iret (v := v) M.1 M.2.1 M.2.2.2.2.2.1 (fun t ht hW => ⟨⟨v, σ, rfl, ⟨rfl, rfl⟩, by show va_P _ _ _ t.heap; rw [ht]; exact hB.1⟩, hB.2.F ht⟩) hB.2.2.2 hdg (hlocks := M.2.2.2.2.2.2)
theorem x_zret {v : Int32} {rm : Room} {ty : FieldType} (M : MX own cc nL (some ty) p s m args meth c) (hB : Bd Γ σ s H locs) (hn : narrow ty (.int v) = .int v) (hr : (v, σ) = res) (hdg : decode cc pc = .ok (.ireturn, 1)) : WI Γ rm p l e s m args below meth c H locs res (F0 m pc ls [.int v]) := by
  subst hr
  exact W.zret (v := v) M.1 M.2.1 M.2.2.2.2.2.1 hn (fun t ht hW => ⟨⟨v, σ, rfl, ⟨rfl, rfl⟩, by show va_P _ _ _ t.heap; rw [ht]; exact hB.1⟩, hB.2.F ht⟩) hB.2.2.2 hdg (hlocks := M.2.2.2.2.2.2)
theorem x_vret {rm : Room} (M : MX own cc nL none p s m args meth c) (hB : Bd Γ σ s H locs) (hr : (0, σ) = res) (hdg : decode cc pc = .ok (.return_, 1)) : WV Γ rm p l e s m args below meth c H locs res (F0 m pc ls []) := by
  subst hr
  exact W.vret M.1 M.2.1 M.2.2.2.2.2.1 (fun t ht hW => ⟨⟨σ, rfl, rfl, by show va_P _ _ _ t.heap; rw [ht]; exact hB.1⟩, hB.2.F ht⟩) hB.2.2.2 hdg (hlocks := M.2.2.2.2.2.2)
end RW
theorem nar_z {v : Int32} (h : v = 0 ∨ v = 1) : narrow .boolean (.int v) = .int v := by rcases h with rfl | rfl <;> rfl
theorem fit_z {v : Int32} (h : v = 0 ∨ v = 1) : fits .boolean (.int v) = true := by rcases h with rfl | rfl <;> rfl
section MT
variable {y : MethodName} {cc : ByteArray} {n : Nat} {ret : Option FieldType} {rm : Room} {Γ : GG} {σ : Sg} {res : Int32 × Sg} {l : Launch}
theorem x_metI (hy : plainName y.cls = true) (av : List Value) (hav : (lg_sl av).length ≤ n) (h : ∀ (p : Program) (e : Env) (s : State) (m : MethodId) (args : Array Value) (below : List Frame) (meth : Method) (c : Code), MX y.cls cc n ret p s m args meth c → KK Γ s s.heap → ∀ ls : Array Slot, lv_has ls n (lv_args 0 av) → Bd Γ σ s s.heap [] → WI Γ rm p l e s m args below meth c s.heap [] res (F0 m 0 ls [])) : Met l y (Cond.code y cc n ret :: gtb) rm (va_Pc av (GI Γ σ)) (QI Γ res) 0 0 (AD Γ) := by
  refine Met.ofW (cc := cc) (maxL := n) (ret := ret) hy rfl ?_
  intro p e s m args below meth c s₁ B hml hv
  obtain ⟨rfl, hP, hK⟩ := hv
  have hts := atoms_spec (ws := Cond.code y cc n ret :: gtb) B.pre
  have hl := lv_entry av hav
  rw [lg_entry_eq]
  exact h p e s m _ below meth c ⟨B.exec, B.bytes, hml, findClass_of_methodNamed B.named, fun w hw => hts w (List.mem_cons_of_mem _ hw), B.returns, B.notSynchronized⟩ hK _ hl ⟨hP, va_S.rf⟩
theorem x_metV (hy : plainName y.cls = true) (av : List Value) (hav : (lg_sl av).length ≤ n) (h : ∀ (p : Program) (e : Env) (s : State) (m : MethodId) (args : Array Value) (below : List Frame) (meth : Method) (c : Code), MX y.cls cc n ret p s m args meth c → KK Γ s s.heap → ∀ ls : Array Slot, lv_has ls n (lv_args 0 av) → Bd Γ σ s s.heap [] → WV Γ rm p l e s m args below meth c s.heap [] res (F0 m 0 ls [])) : Met l y (Cond.code y cc n ret :: gtb) rm (va_Pc av (GI Γ σ)) (QV Γ res) 0 0 (AD Γ) := by
  refine Met.ofW (cc := cc) (maxL := n) (ret := ret) hy rfl ?_
  intro p e s m args below meth c s₁ B hml hv
  obtain ⟨rfl, hP, hK⟩ := hv
  have hts := atoms_spec (ws := Cond.code y cc n ret :: gtb) B.pre
  have hl := lv_entry av hav
  rw [lg_entry_eq]
  exact h p e s m _ below meth c ⟨B.exec, B.bytes, hml, findClass_of_methodNamed B.named, fun w hw => hts w (List.mem_cons_of_mem _ hw), B.returns, B.notSynchronized⟩ hK _ hl ⟨hP, va_S.rf⟩
end MT
section RK
variable {p : Program} {l : Launch} {e : Env} {R : Room} {s : State} {m : MethodId} {args : Array Value} {below : List Frame} {meth : Method} {c : Code} {H : Heap} {locs : List Loc} {cells slots : Nat} {Q : State → Prop}
variable {cc : ByteArray} {pc : Nat} {ls : Array Slot} {rest : List Value} {Γ : GG} {σ : Sg} {own : String} {nL : Nat} {ret : Option FieldType} {q index : Nat}
theorem own_X0 : ∀ k, k < 13 → (TX0 k).1 = RX0 := by decide +kernel
theorem x_get0 (M : MX own cc nL ret p s m args meth c) (K : KK Γ s s.heap) (hB : Bd Γ σ s H locs) (hq : isK 0 q) (k : Nat) (hk : k < 13) (hlink : Cond.fieldLink own index RX0 (TX0 k).2.1 (TX0 k).2.2.1 ∈ gtb) {v : Value} (hv : (fs0 Γ σ q)[k]? = some v) (hdg : decode cc pc = .ok (.getfield index, 3)) (kk : W p l e R s m args below meth c H locs cells slots Q (F0 m (pc + 3) ls (v :: rest))) : W p l e R s m args below meth c H locs cells slots Q (F0 m pc ls (.ref (Γ.1 q) :: rest)) :=
  x_get M K hB hq.2 (ent_0 hq.1) rfl in_X0 k hk (own_X0 k hk) hlink hv hdg kk
theorem x_put0 (M : MX own cc nL ret p s m args meth c) (K : KK Γ s s.heap) (hB : Bd Γ σ s H locs) (hq : isK 0 q) (k : Nat) (hk : k = 3 ∨ k = 4 ∨ k = 5 ∨ k = 6 ∨ k = 7 ∨ k = 8 ∨ k = 9 ∨ k = 10 ∨ k = 11 ∨ k = 12) (hlink : Cond.fieldLink own index RX0 (TX0 k).2.1 (TX0 k).2.2.1 ∈ gtb) {x : Int32} (hdg : decode cc pc = .ok (.putfield index, 3))
    (kk : ∀ (H1 : Heap) (locs1 : List Loc), Bd Γ (st σ q k x) s H1 locs1 → W p l e R s m args below meth c H1 locs1 cells slots Q (F0 m (pc + 3) ls rest)) : W p l e R s m args below meth c H locs cells slots Q (F0 m pc ls (.int x :: .ref (Γ.1 q) :: rest)) := by
  have hk0 : k < 13 := by omega
  have hty : tyX0 k = .int := by rcases hk with rfl | rfl | rfl | rfl | rfl | rfl | rfl | rfl | rfl | rfl <;> rfl
  refine x_put (v := .int x) (σ' := st σ q k x) M K hB hq.2 (ent_0 hq.1) rfl in_X0 tyX0 tyX0_ok nmX0 k hk0 (own_X0 k hk0) (by rcases hk with rfl | rfl | rfl | rfl | rfl | rfl | rfl | rfl | rfl | rfl <;> rfl) hlink (by rw [hty]; rfl) (by rw [hty]; rfl) (by simp [fs0]; omega) (fun a h => st_o a h) (by rw [ent_0 hq.1, fs0_set (by omega)]) hdg kk
theorem own_X1 : ∀ k, k < 2 → (TX1 k).1 = RX1 := by decide +kernel
theorem x_get1 (M : MX own cc nL ret p s m args meth c) (K : KK Γ s s.heap) (hB : Bd Γ σ s H locs) (hq : isK 1 q) (k : Nat) (hk : k < 2) (hlink : Cond.fieldLink own index RX1 (TX1 k).2.1 (TX1 k).2.2.1 ∈ gtb) {v : Value} (hv : (fs1 Γ σ q)[k]? = some v) (hdg : decode cc pc = .ok (.getfield index, 3)) (kk : W p l e R s m args below meth c H locs cells slots Q (F0 m (pc + 3) ls (v :: rest))) : W p l e R s m args below meth c H locs cells slots Q (F0 m pc ls (.ref (Γ.1 q) :: rest)) :=
  x_get M K hB hq.2 (ent_1 hq.1) rfl in_X1 k hk (own_X1 k hk) hlink hv hdg kk
theorem x_put1 (M : MX own cc nL ret p s m args meth c) (K : KK Γ s s.heap) (hB : Bd Γ σ s H locs) (hq : isK 1 q) (k : Nat) (hk : k = 1) (hlink : Cond.fieldLink own index RX1 (TX1 k).2.1 (TX1 k).2.2.1 ∈ gtb) {x : Int32} (hdg : decode cc pc = .ok (.putfield index, 3))
    (kk : ∀ (H1 : Heap) (locs1 : List Loc), Bd Γ (st σ q k x) s H1 locs1 → W p l e R s m args below meth c H1 locs1 cells slots Q (F0 m (pc + 3) ls rest)) : W p l e R s m args below meth c H locs cells slots Q (F0 m pc ls (.int x :: .ref (Γ.1 q) :: rest)) := by
  have hk0 : k < 2 := by omega
  have hty : tyX1 k = .int := by subst hk; rfl
  refine x_put (v := .int x) (σ' := st σ q k x) M K hB hq.2 (ent_1 hq.1) rfl in_X1 tyX1 tyX1_ok nmX1 k hk0 (own_X1 k hk0) (by subst hk; rfl) hlink (by rw [hty]; rfl) (by rw [hty]; rfl) (by simp [fs1]; omega) (fun a h => st_o a h) (by rw [ent_1 hq.1, fs1_set (by omega)]) hdg kk
theorem own_X2 : ∀ k, k < 9 → (TX2 k).1 = RX2 := by decide +kernel
theorem x_get2 (M : MX own cc nL ret p s m args meth c) (K : KK Γ s s.heap) (hB : Bd Γ σ s H locs) (hq : isK 2 q) (k : Nat) (hk : k < 9) (hlink : Cond.fieldLink own index RX2 (TX2 k).2.1 (TX2 k).2.2.1 ∈ gtb) {v : Value} (hv : (fs2 Γ σ q)[k]? = some v) (hdg : decode cc pc = .ok (.getfield index, 3)) (kk : W p l e R s m args below meth c H locs cells slots Q (F0 m (pc + 3) ls (v :: rest))) : W p l e R s m args below meth c H locs cells slots Q (F0 m pc ls (.ref (Γ.1 q) :: rest)) :=
  x_get M K hB hq.2 (ent_2 hq.1) rfl in_X2 k hk (own_X2 k hk) hlink hv hdg kk
theorem x_put2 (M : MX own cc nL ret p s m args meth c) (K : KK Γ s s.heap) (hB : Bd Γ σ s H locs) (hq : isK 2 q) (k : Nat) (hk : k = 1 ∨ k = 2 ∨ k = 3) (hlink : Cond.fieldLink own index RX2 (TX2 k).2.1 (TX2 k).2.2.1 ∈ gtb) {x : Int32} (hdg : decode cc pc = .ok (.putfield index, 3))
    (kk : ∀ (H1 : Heap) (locs1 : List Loc), Bd Γ (st σ q k x) s H1 locs1 → W p l e R s m args below meth c H1 locs1 cells slots Q (F0 m (pc + 3) ls rest)) : W p l e R s m args below meth c H locs cells slots Q (F0 m pc ls (.int x :: .ref (Γ.1 q) :: rest)) := by
  have hk0 : k < 9 := by omega
  have hty : tyX2 k = .int := by rcases hk with rfl | rfl | rfl <;> rfl
  refine x_put (v := .int x) (σ' := st σ q k x) M K hB hq.2 (ent_2 hq.1) rfl in_X2 tyX2 tyX2_ok nmX2 k hk0 (own_X2 k hk0) (by rcases hk with rfl | rfl | rfl <;> rfl) hlink (by rw [hty]; rfl) (by rw [hty]; rfl) (by simp [fs2]; omega) (fun a h => st_o a h) (by rw [ent_2 hq.1, fs2_set (by omega)]) hdg kk
theorem own_X3 : ∀ k, k < 16 → (TX3 k).1 = RX3 := by decide +kernel
theorem x_get3 (M : MX own cc nL ret p s m args meth c) (K : KK Γ s s.heap) (hB : Bd Γ σ s H locs) (hq : isK 3 q) (k : Nat) (hk : k < 16) (hlink : Cond.fieldLink own index RX3 (TX3 k).2.1 (TX3 k).2.2.1 ∈ gtb) {v : Value} (hv : (fs3 Γ σ q)[k]? = some v) (hdg : decode cc pc = .ok (.getfield index, 3)) (kk : W p l e R s m args below meth c H locs cells slots Q (F0 m (pc + 3) ls (v :: rest))) : W p l e R s m args below meth c H locs cells slots Q (F0 m pc ls (.ref (Γ.1 q) :: rest)) :=
  x_get M K hB hq.2 (ent_3 hq.1) rfl in_X3 k hk (own_X3 k hk) hlink hv hdg kk
theorem x_put3 (M : MX own cc nL ret p s m args meth c) (K : KK Γ s s.heap) (hB : Bd Γ σ s H locs) (hq : isK 3 q) (k : Nat) (hk : k = 6 ∨ k = 7 ∨ k = 8 ∨ k = 9 ∨ k = 12 ∨ k = 14 ∨ k = 15) (hlink : Cond.fieldLink own index RX3 (TX3 k).2.1 (TX3 k).2.2.1 ∈ gtb) {x : Int32} (hdg : decode cc pc = .ok (.putfield index, 3))
    (kk : ∀ (H1 : Heap) (locs1 : List Loc), Bd Γ (st σ q k x) s H1 locs1 → W p l e R s m args below meth c H1 locs1 cells slots Q (F0 m (pc + 3) ls rest)) : W p l e R s m args below meth c H locs cells slots Q (F0 m pc ls (.int x :: .ref (Γ.1 q) :: rest)) := by
  have hk0 : k < 16 := by omega
  have hty : tyX3 k = .int := by rcases hk with rfl | rfl | rfl | rfl | rfl | rfl | rfl <;> rfl
  refine x_put (v := .int x) (σ' := st σ q k x) M K hB hq.2 (ent_3 hq.1) rfl in_X3 tyX3 tyX3_ok nmX3 k hk0 (own_X3 k hk0) (by rcases hk with rfl | rfl | rfl | rfl | rfl | rfl | rfl <;> rfl) hlink (by rw [hty]; rfl) (by rw [hty]; rfl) (by simp [fs3]; omega) (fun a h => st_o a h) (by rw [ent_3 hq.1, fs3_set (by omega)]) hdg kk
theorem x_putz3 (M : MX own cc nL ret p s m args meth c) (K : KK Γ s s.heap) (hB : Bd Γ σ s H locs) (hq : isK 3 q) (k : Nat) (hk : k = 4 ∨ k = 5 ∨ k = 10 ∨ k = 11 ∨ k = 13) (hlink : Cond.fieldLink own index RX3 (TX3 k).2.1 (TX3 k).2.2.1 ∈ gtb) {x : Int32} (hx : x = 0 ∨ x = 1) (hdg : decode cc pc = .ok (.putfield index, 3))
    (kk : ∀ (H1 : Heap) (locs1 : List Loc), Bd Γ (st σ q k x) s H1 locs1 → W p l e R s m args below meth c H1 locs1 cells slots Q (F0 m (pc + 3) ls rest)) : W p l e R s m args below meth c H locs cells slots Q (F0 m pc ls (.int x :: .ref (Γ.1 q) :: rest)) := by
  have hk0 : k < 16 := by omega
  have hty : tyX3 k = .boolean := by rcases hk with rfl | rfl | rfl | rfl | rfl <;> rfl
  refine x_put (v := .int x) (σ' := st σ q k x) M K hB hq.2 (ent_3 hq.1) rfl in_X3 tyX3 tyX3_ok nmX3 k hk0 (own_X3 k hk0) (by rcases hk with rfl | rfl | rfl | rfl | rfl <;> rfl) hlink (by rw [hty]; exact nar_z hx) (by rw [hty]; exact fit_z hx) (by simp [fs3]; omega) (fun a h => st_o a h) (by rw [ent_3 hq.1, fs3_set (by omega)]) hdg kk
theorem own_X4 : ∀ k, k < 5 → (TX4 k).1 = RX4 := by decide +kernel
theorem x_get4 (M : MX own cc nL ret p s m args meth c) (K : KK Γ s s.heap) (hB : Bd Γ σ s H locs) (hq : isK 4 q) (k : Nat) (hk : k < 5) (hlink : Cond.fieldLink own index RX4 (TX4 k).2.1 (TX4 k).2.2.1 ∈ gtb) {v : Value} (hv : (fs4 Γ σ q)[k]? = some v) (hdg : decode cc pc = .ok (.getfield index, 3)) (kk : W p l e R s m args below meth c H locs cells slots Q (F0 m (pc + 3) ls (v :: rest))) : W p l e R s m args below meth c H locs cells slots Q (F0 m pc ls (.ref (Γ.1 q) :: rest)) :=
  x_get M K hB hq.2 (ent_4 hq.1) rfl in_X4 k hk (own_X4 k hk) hlink hv hdg kk
end RK
end
section
/-! the block functions' forms -/
def FU : Nat := 100000
def cb {β : Type} (x : Option (Int32 × Sg)) (f : Int32 → Sg → Option β) : Option β := match x with
  | none => none
  | some r => f r.1 r.2
def wb {β : Type} (x : Sg) (f : Sg → Option β) : Option β := f x
theorem gd {α : Type} {P : Prop} [Decidable P] {a : Option α} {r : α} (h : (if P then none else a) = some r) : ¬ P ∧ a = some r := by
  by_cases hp : P
  · rw [if_pos hp] at h; cases h
  · rw [if_neg hp] at h; exact ⟨hp, h⟩
theorem gd2 {α : Type} {P : Prop} [Decidable P] {a : Option α} {r : α} (h : (if P then a else none) = some r) : P ∧ a = some r := by
  by_cases hp : P
  · rw [if_pos hp] at h; exact ⟨hp, h⟩
  · rw [if_neg hp] at h; cases h
theorem cbd {β : Type} {x : Option (Int32 × Sg)} {f : Int32 → Sg → Option β} {r : β} (h : cb x f = some r) : ∃ (v : Int32) (σ : Sg), x = some (v, σ) ∧ f v σ = some r := by
  cases x with
  | none => cases h
  | some q => exact ⟨q.1, q.2, rfl, h⟩
theorem wbd {β : Type} {x : Sg} {f : Sg → Option β} {r : β} (h : wb x f = some r) : ∃ σ : Sg, σ = x ∧ f σ = some r := ⟨x, rfl, h⟩
theorem nar_c {v : Int32} (h : (v.toUInt32 % 65536).toInt32 = v) : narrow .char (.int v) = .int v := by
  rw [← h]; exact pk_nc _
theorem nar_b {v : Int32} (h : v = 0 ∨ v = 1) : narrow .byte (.int v) = .int v := by rcases h with rfl | rfl <;> rfl
theorem vp_lt {i : Int32} {n : Nat} (h : ¬ (i < 0 ∨ n ≤ i.toNatClampNeg)) : i.toNatClampNeg < n := Nat.not_le.mp fun q => h (Or.inr q)
def isBk (q : Nat) : Prop := kd q = 1 ∧ q < 152 ∧ kd (q + 1) = 6 ∧ ln (q + 1) = 80
theorem isBk.k {q : Nat} (h : isBk q) : isK 1 q := ⟨h.1, by have := h.2.1; omega⟩
theorem isBk.a {q : Nat} (h : isBk q) : isA 80 (q + 1) := ⟨h.2.2.1, by have := h.2.1; omega, h.2.2.2⟩
theorem isB.bk {q : Nat} (h : isB q) : isBk (q + 3) := by rcases h with rfl | rfl | rfl | rfl <;> (unfold isBk; decide)
theorem isB_1 : isB 1 := Or.inl rfl
theorem isB_36 : isB 36 := Or.inr (Or.inl rfl)
theorem isB_s {k : Nat} (h : k < 2) : isB (71 + 1 + 35 * k) := by
  have h2 : k = 0 ∨ k = 1 := by omega
  rcases h2 with rfl | rfl
  · exact Or.inr (Or.inr (Or.inl rfl))
  · exact Or.inr (Or.inr (Or.inr rfl))
theorem isK_0 : isK 4 0 := ⟨by decide, by decide⟩
theorem isK_71 : isK 9 71 := ⟨by decide, by decide⟩
theorem isK_142 : isK 8 142 := ⟨by decide, by decide⟩
theorem isK_143 : isK 2 143 := ⟨by decide, by decide⟩
theorem isK_144 : isK 7 144 := ⟨by decide, by decide⟩
theorem isA_145 : isA 20 145 := ⟨by decide, by decide, by decide⟩
theorem isA_146 : isA 20 146 := ⟨by decide, by decide, by decide⟩
theorem isA_147 : isA 20 147 := ⟨by decide, by decide, by decide⟩
theorem isA_148 : isA 20 148 := ⟨by decide, by decide, by decide⟩
theorem isA_149 : isA 20 149 := ⟨by decide, by decide, by decide⟩
theorem isA_150 : isA 14 150 := ⟨by decide, by decide, by decide⟩
theorem isA_151 : isA 30 151 := ⟨by decide, by decide, by decide⟩
theorem isA_152 : isA 18 152 := ⟨by decide, by decide, by decide⟩
section RL
variable {p : Program} {l : Launch} {e : Env} {R : Room} {s : State} {m : MethodId} {args : Array Value} {below : List Frame} {meth : Method} {c : Code} {H : Heap} {locs : List Loc} {cells slots : Nat} {Q : State → Prop}
variable {cc : ByteArray} {pc : Nat} {ls : Array Slot} {rest : List Value} {Γ : GG} {σ : Sg} {own : String} {nL : Nat} {ret : Option FieldType}
theorem x_ialdL {q n : Nat} (M : MX own cc nL ret p s m args meth c) (K : KK Γ s s.heap) (hB : Bd Γ σ s H locs) (hq : isA n q) {i : Int32} {k : Nat} (hk : i.toNatClampNeg = k) (hin : ¬ (i < 0 ∨ n ≤ i.toNatClampNeg)) (hdg : decode cc pc = .ok (.iaload, 1))
    (kk : W p l e R s m args below meth c H locs cells slots Q (F0 m (pc + 1) ls (.int (σ q k) :: rest))) : W p l e R s m args below meth c H locs cells slots Q (F0 m pc ls (.int i :: .ref (Γ.1 q) :: rest)) := by
  subst hk; exact x_iald M K hB hq hin hdg kk
theorem x_caldL {q : Nat} (M : MX own cc nL ret p s m args meth c) (K : KK Γ s s.heap) (hB : Bd Γ σ s H locs) (hq : isK 7 q) {i : Int32} {k : Nat} (hk : i.toNatClampNeg = k) (hin : ¬ (i < 0 ∨ (ln q) ≤ i.toNatClampNeg)) (hdg : decode cc pc = .ok (.caload, 1))
    (kk : W p l e R s m args below meth c H locs cells slots Q (F0 m (pc + 1) ls (.int (σ q k) :: rest))) : W p l e R s m args below meth c H locs cells slots Q (F0 m pc ls (.int i :: .ref (Γ.1 q) :: rest)) := by
  subst hk; exact x_cald M K hB hq hin hdg kk
theorem x_zaldL {q : Nat} (M : MX own cc nL ret p s m args meth c) (K : KK Γ s s.heap) (hB : Bd Γ σ s H locs) (hq : isK 8 q) {i : Int32} {k : Nat} (hk : i.toNatClampNeg = k) (hin : ¬ (i < 0 ∨ (ln q) ≤ i.toNatClampNeg)) (hdg : decode cc pc = .ok (.baload, 1))
    (kk : W p l e R s m args below meth c H locs cells slots Q (F0 m (pc + 1) ls (.int (σ q k) :: rest))) : W p l e R s m args below meth c H locs cells slots Q (F0 m pc ls (.int i :: .ref (Γ.1 q) :: rest)) := by
  subst hk; exact x_zald M K hB hq hin hdg kk
theorem x_aaldTL {q : Nat} (M : MX own cc nL ret p s m args meth c) (K : KK Γ s s.heap) (hB : Bd Γ σ s H locs) (hq : isK 10 q) {i : Int32} {k : Nat} (hk : i.toNatClampNeg = k) (hin : ¬ (i < 0 ∨ 6 ≤ i.toNatClampNeg)) (hdg : decode cc pc = .ok (.aaload, 1))
    (kk : W p l e R s m args below meth c H locs cells slots Q (F0 m (pc + 1) ls (.ref (Γ.1 (q + 3 + 5 * k)) :: rest))) : W p l e R s m args below meth c H locs cells slots Q (F0 m pc ls (.int i :: .ref (Γ.1 q) :: rest)) := by
  subst hk; exact x_aaldT M K hB hq hin hdg kk
theorem x_aaldBL {q : Nat} (M : MX own cc nL ret p s m args meth c) (K : KK Γ s s.heap) (hB : Bd Γ σ s H locs) (hq : isK 9 q) {i : Int32} {k : Nat} (hk : i.toNatClampNeg = k) (hin : ¬ (i < 0 ∨ 2 ≤ i.toNatClampNeg)) (hdg : decode cc pc = .ok (.aaload, 1))
    (kk : W p l e R s m args below meth c H locs cells slots Q (F0 m (pc + 1) ls (.ref (Γ.1 (q + 1 + 35 * k)) :: rest))) : W p l e R s m args below meth c H locs cells slots Q (F0 m pc ls (.int i :: .ref (Γ.1 q) :: rest)) := by
  subst hk; exact x_aaldB M K hB hq hin hdg kk
theorem x_iastL {q n : Nat} (M : MX own cc nL ret p s m args meth c) (K : KK Γ s s.heap) (hB : Bd Γ σ s H locs) (hq : isA n q) {i x : Int32} {k : Nat} (hk : i.toNatClampNeg = k) (hin : ¬ (i < 0 ∨ n ≤ i.toNatClampNeg)) (hdg : decode cc pc = .ok (.iastore, 1))
    (kk : ∀ (H1 : Heap) (locs1 : List Loc), Bd Γ (st σ q k x) s H1 locs1 → W p l e R s m args below meth c H1 locs1 cells slots Q (F0 m (pc + 1) ls rest)) : W p l e R s m args below meth c H locs cells slots Q (F0 m pc ls (.int x :: .int i :: .ref (Γ.1 q) :: rest)) := by
  subst hk; exact x_iast M K hB hq hin hdg kk
theorem x_tiL (M : MX own cc nL ret p s m args meth c) (K : KK Γ s s.heap) (hB : Bd Γ σ s H locs) {t : Nat} (ht : t < 6) {i : Int32} {k : Nat} (hk : i.toNatClampNeg = k) (hin : ¬ (i < 0 ∨ 8 ≤ i.toNatClampNeg)) (hdg : decode cc pc = .ok (.iaload, 1))
    (kk : W p l e R s m args below meth c H locs cells slots Q (F0 m (pc + 1) ls (.int (tb t k) :: rest))) : W p l e R s m args below meth c H locs cells slots Q (F0 m pc ls (.int i :: .ref (gS Γ t) :: rest)) := by
  subst hk; exact x_ti M K hB ht hin hdg kk
theorem x_getsN {index : Nat} {host : String} (M : MX own cc nL ret p s m args meth c) (K : KK Γ s s.heap) (hB : Bd Γ σ s H locs) (k : Nat) (hk : k < 6) (hlink : Cond.fieldLinkNest own index RX4 (sn k) "[I" host ∈ ntb) (hdg : decode cc pc = .ok (.getstatic index, 3))
    (kk : W p l e R s m args below meth c H locs cells slots Q (F0 m (pc + 3) ls (.ref (gS Γ k) :: rest))) : W p l e R s m args below meth c H locs cells slots Q (F0 m pc ls rest) :=
  va_getsN M.1 M.2.1 (K.2.2.1 k hk).1 hB.2 M.2.2.2.1 (va_Nw.use rfl (K.2.1 _ hlink)) (fun x h => h) hdg kk
theorem x_copyT {q1 n1 t : Nat} (M : MX own cc nL ret p s m args meth c) (K : KK Γ s s.heap) (hB : Bd Γ σ s H locs) (hls : ls.size = nL) (ht : t < 6) (hq1 : isA n1 q1) {index : Nat} (hlink : Cond.methodLink own index arraycopyName ∈ gtb) (hnat : Cond.native arraycopyName ∈ gtb) (hstat : Cond.static arraycopyName ∈ gtb) (hini : Cond.initialized "java/lang/System" ∈ gtb)
    {sp dp n : Int32} (h1 : ¬ sp < 0) (h2 : ¬ dp < 0) (h3 : ¬ n < 0) (h4 : sp.toNatClampNeg + n.toNatClampNeg ≤ 8) (h5 : dp.toNatClampNeg + n.toNatClampNeg ≤ n1)
    (hframes : 1 ≤ R.frames) (hlocals : (rest.map fun v => v.category).sum + (nativeFrameWords "java/lang/System" "arraycopy" 5 + 11) ≤ R.locals) (hdg : decode cc pc = .ok (.invokestatic index, 3))
    (kk : ∀ (H1 : Heap) (locs1 : List Loc), Bd Γ (sr σ q1 (va_cpy (tb t) (σ q1) sp.toNatClampNeg dp.toNatClampNeg n.toNatClampNeg)) s H1 locs1 → W p l e R s m args below meth c H1 locs1 cells slots Q (F0 m (pc + 3) ls rest)) : W p l e R s m args below meth c H locs cells slots Q (F0 m pc ls (.int n :: .int dp :: .ref (Γ.1 q1) :: .int sp :: .ref (gS Γ t) :: rest)) := by
  have nn : ∀ z : Int32, ¬ z < 0 → z.toInt = (z.toNatClampNeg : Int) := by
    intro z hz
    have hz0 : (0 : Int) ≤ z.toInt := by
      have := Int32.not_lt.mp hz
      simpa using Int32.le_iff_toInt_le.mp this
    show z.toInt = ((z.toInt.toNat : Nat) : Int)
    omega
  obtain ⟨hexec, hb, hml, hown, hts, -⟩ := M
  have hS := hB.2
  have hX := (K.2.2.1 t ht).2
  have hA1 : (pic Γ σ)[q1]? = some (Γ.1 q1, .inl (gA Γ 0, n1, .inl (σ q1))) := by rw [pic_get hq1.2.1, ent_6 hq1.1, hq1.2.2]
  intro T hT X
  obtain ⟨scr, hs1, hs2, hs3, hs4, -, hs5, hs7⟩ := hX
  have hc0 : H[gS Γ t]? = some scr := by rw [hS.2.1 _ (Array.getElem?_eq_some_iff.mp hs1).1 hs7]; exact hs1
  have hc1 : H[Γ.1 q1]? = some (vp_cell (gA Γ 0) (n1, .inl (σ q1))) := hB.1 q1 _ hA1
  obtain ⟨hs6, k0, hk0, cm0, hkk0⟩ := hs2
  obtain ⟨-, k1, hk1, cm1, hkk1⟩ := (K.1.2 0 (gA Γ 0, .int) rfl).1 n1 (fun j => .int (σ q1 j))
  obtain ⟨vm', X', step⟩ := X.arraycopy hexec hown (hts _ hlink) (hts _ hnat) (hts _ hstat) (hts _ hini) (src := gS Γ t) (dst := Γ.1 q1) (cs := scr) (cd := vp_cell (gA Γ 0) (n1, .inl (σ q1))) (srcPos := sp) (destPos := dp) (n := n) (by rw [hT]; exact hc0) (by rw [hT]; exact hc1)
    hs6 (fun _ h => by cases h) hs3 (fun h => by cases h) hk0 hk1 hkk0 hkk1 (by simp [refKind]) h1 h2 h3
    (by rw [nn sp h1, nn n h3]; omega)
    (by rw [nn dp h2, nn n h3]; show ¬ _ > ((arrV (gA Γ 0) n1 (fun j => .int (σ q1 j))).slots.size : Int); rw [arrV_size]; omega)
    (fun vm₁ _ i hi => by
      have e : scr.slots.getD (sp.toNatClampNeg + i) .null = .int (tb t (sp.toNatClampNeg + i)) := by
        rw [Array.getD_eq_getD_getElem?, hs5 _ (by omega)]
        rfl
      refine ⟨?_, ?_⟩
      · rw [e]
        rfl
      · rw [e]
        exact trivial)
    (g := F0 m pc ls (.int n :: .int dp :: .ref (Γ.1 q1) :: .int sp :: .ref (gS Γ t) :: rest)) rfl (by rw [hml, hls]) (rest := rest) rfl (by rw [hb]; exact hdg) hframes (by show 2 * 0 + _ + _ ≤ _; omega)
  have e1 : copied scr (vp_cell (gA Γ 0) (n1, .inl (σ q1))) sp dp n = vp_cell (gA Γ 0) (n1, .inl (va_cpy (tb t) (σ q1) sp.toNatClampNeg dp.toNatClampNeg n.toNatClampNeg)) := va_copiedX (fun z => .int z) scr (gA Γ 0) (tb t) (σ q1) hs5 h4
  rw [e1] at X' step
  have hl : Γ.1 q1 < H.size := (Array.getElem?_eq_some_iff.mp hc1).1
  have hheap : ((T.setVm vm').setCell (Γ.1 q1) (vp_cell (gA Γ 0) (n1, .inl (va_cpy (tb t) (σ q1) sp.toNatClampNeg dp.toNatClampNeg n.toNatClampNeg)))).heap = H.setIfInBounds (Γ.1 q1) (vp_cell (gA Γ 0) (n1, .inl (va_cpy (tb t) (σ q1) sp.toNatClampNeg dp.toNatClampNeg n.toNatClampNeg))) := by rw [← hT]; rfl
  have oq : ∀ q : Nat, q ≠ Γ.1 q1 → (H.setIfInBounds (Γ.1 q1) (vp_cell (gA Γ 0) (n1, .inl (va_cpy (tb t) (σ q1) sp.toNatClampNeg dp.toNatClampNeg n.toNatClampNeg))))[q]? = H[q]? := fun q hq => by simp [Array.getElem?_setIfInBounds, Ne.symm hq]
  have hAD : AD Γ (Γ.1 q1) := ⟨q1, hq1.2.1, rfl⟩
  have hP2 := hB.1.set (pic_D K.2.2.2.2 σ) hA1 (show va_at (gD Γ) classes (Γ.1 q1, .inl (gA Γ 0, n1, .inl (va_cpy (tb t) (σ q1) sp.toNatClampNeg dp.toNatClampNeg n.toNatClampNeg))) (H.setIfInBounds (Γ.1 q1) _) from (show (H.setIfInBounds (Γ.1 q1) _)[Γ.1 q1]? = some _ by simp [Array.getElem?_setIfInBounds, hl])) oq
  rw [pic_set (σ' := sr σ q1 (va_cpy (tb t) (σ q1) sp.toNatClampNeg dp.toNatClampNeg n.toNatClampNeg)) (fun a h => sr_o a h) (by rw [ent_6 hq1.1, hq1.2.2]; simp [sr])] at hP2
  obtain ⟨t2, a1, b1⟩ := kk _ _ ⟨hP2, ⟨by simp; exact hS.1, fun q g1 g2 => by
      rw [oq q (fun e => g2 (by rw [e]; exact hAD))]
      exact hS.2.1 q g1 g2, fun q hq => by
      rcases List.mem_append.mp hq with h | h
      · exact hS.2.2 q h
      · obtain ⟨z, -, hz⟩ := List.mem_map.mp h
        rw [← hz]
        exact hAD⟩⟩ _ hheap X'
  exact ⟨t2, step t2 a1, b1⟩
theorem x_min {index : Nat} (M : MX own cc nL ret p s m args meth c) (hls : ls.size = nL) (hlink : Cond.methodLink own index Lib.Math.min.name ∈ gtb) (hstat : Cond.static Lib.Math.min.name ∈ gtb) (hini : Cond.initialized "java/lang/Math" ∈ gtb) (hcode : Cond.code Lib.Math.min.name Lib.Math.min.code 2 (some .int) ∈ gtb)
    (hframes : 1 ≤ R.frames) (hlocals : (rest.map fun v => v.category).sum + 13 ≤ R.locals) (hc : cells ≤ R.cells) (hs : slots ≤ R.slots) {x y : Int32} (hdg : decode cc pc = .ok (.invokestatic index, 3))
    (kk : W p l e R s m args below meth c H locs cells slots Q (F0 m (pc + 3) ls (.int (if y < x then y else x) :: rest))) : W p l e R s m args below meth c H locs cells slots Q (F0 m pc ls (.int y :: .int x :: rest)) := by
  obtain ⟨hx, hb, hml, hown, hts, -⟩ := M
  exact va_mmin hx hb (hml.trans hls.symm) hown (hts _ hlink) (hts _ hstat) (hts _ hini) (hts _ hcode) hframes hlocals hc hs hdg kk
/-- the script -/
theorem x_slen {D : SD} (M : MX own cc nL ret p s m args meth c) (K : KK Γ s s.heap) (hB : Bd Γ σ s H locs) (hD : gX Γ = D) (hdg : decode cc pc = .ok (.arraylength, 1))
    (kk : W p l e R s m args below meth c H locs cells slots Q (F0 m (pc + 1) ls (.int (Int32.ofNat D.1) :: rest))) : W p l e R s m args below meth c H locs cells slots Q (F0 m pc ls (.ref (gS Γ 6) :: rest)) := by
  subst hD; exact va_tlen M.1 M.2.1 K.2.2.2.1 hB.2 rfl hdg kk
theorem x_sld {D : SD} (M : MX own cc nL ret p s m args meth c) (K : KK Γ s s.heap) (hB : Bd Γ σ s H locs) (hD : gX Γ = D) {i : Int32} (hin : ¬ (i < 0 ∨ D.1 ≤ i.toNatClampNeg)) (hdg : decode cc pc = .ok (.iaload, 1))
    (kk : W p l e R s m args below meth c H locs cells slots Q (F0 m (pc + 1) ls (.int (D.2 i.toNatClampNeg) :: rest))) : W p l e R s m args below meth c H locs cells slots Q (F0 m pc ls (.int i :: .ref (gS Γ 6) :: rest)) := by
  subst hD; exact va_ti M.1 M.2.1 K.2.2.2.1 hB.2 hin rfl hdg kk
end RL
/-- the law's own body: any room so far, any end -/
abbrev WLw (cells slots : Nat) (Q : State → Prop) (Γ : GG) (rm : Room) (p : Program) (l : Launch) (e : Env) (s : State) (m : MethodId) (args : Array Value) (below : List Frame) (meth : Method) (c : Code) (H : Heap) (locs : List Loc) (res : Int32 × Sg) (g : JFrame) : Prop := W p l e rm s m args below meth c H locs cells slots Q g
def RT (Γ : GG) (p : Program) (l : Launch) (e : Env) (s : State) (m : MethodId) (args : Array Value) (below : List Frame) (meth : Method) (c : Code) (cells slots : Nat) (Q : State → Prop) (res : Int32 × Sg) : Prop := ∀ (pc : Nat) (ls : Array Slot) (H : Heap) (locs : List Loc) (v : Int32) (σ : Sg), (v, σ) = res → decode cL_law pc = .ok (.ireturn, 1) → Bd Γ σ s H locs → W p l e room_1 s m args below meth c H locs cells slots Q (F0 m pc ls [.int v])

theorem wd_0 : Cond.fieldLink RX1 15 RX1 "count" "I" ∈ gtb := gtb_of (List.mem_append_right _ (List.mem_of_getElem? (i := 40) (by decide +kernel))) (by decide +kernel)
theorem wd_1 : Cond.fieldLink RX1 9 RX1 "cells" "[I" ∈ gtb := gtb_of (List.mem_append_right _ (List.mem_of_getElem? (i := 39) (by decide +kernel))) (by decide +kernel)
theorem wd_2 : Cond.methodLink RX1 23 arraycopyName ∈ gtb := gtb_of (List.mem_append_right _ (List.mem_of_getElem? (i := 375) (by decide +kernel))) (by decide +kernel)
theorem wd_3 : Cond.native arraycopyName ∈ gtb := gtb_of (List.mem_append_right _ (List.mem_of_getElem? (i := 250) (by decide +kernel))) (by decide +kernel)
theorem wd_4 : Cond.static arraycopyName ∈ gtb := gtb_of (List.mem_append_right _ (List.mem_of_getElem? (i := 249) (by decide +kernel))) (by decide +kernel)
theorem wd_5 : Cond.initialized "java/lang/System" ∈ gtb := gtb_of (List.mem_append_right _ (List.mem_of_getElem? (i := 6) (by decide +kernel))) (by decide +kernel)
theorem wd_6 : Cond.fieldLink RX3 23 RX3 "faultKinds" "[I" ∈ gtb := gtb_of (List.mem_append_right _ (List.mem_of_getElem? (i := 60) (by decide +kernel))) (by decide +kernel)
theorem wd_7 : Cond.fieldLink RX3 26 RX3 "faultStarts" "[I" ∈ gtb := gtb_of (List.mem_append_right _ (List.mem_of_getElem? (i := 62) (by decide +kernel))) (by decide +kernel)
theorem wd_8 : Cond.fieldLink RX3 29 RX3 "faultAmounts" "[I" ∈ gtb := gtb_of (List.mem_append_right _ (List.mem_of_getElem? (i := 63) (by decide +kernel))) (by decide +kernel)
theorem wd_9 : Cond.fieldLink RX3 32 RX3 "hasJob" "Z" ∈ gtb := gtb_of (List.mem_append_right _ (List.mem_of_getElem? (i := 64) (by decide +kernel))) (by decide +kernel)
theorem wd_10 : Cond.fieldLink RX3 46 RX3 "alive" "I" ∈ gtb := gtb_of (List.mem_append_right _ (List.mem_of_getElem? (i := 68) (by decide +kernel))) (by decide +kernel)
theorem wd_11 : Cond.fieldLink RX3 49 RX3 "failures" "I" ∈ gtb := gtb_of (List.mem_append_right _ (List.mem_of_getElem? (i := 69) (by decide +kernel))) (by decide +kernel)
theorem wd_12 : Cond.fieldLink RX3 52 RX3 "isLate" "Z" ∈ gtb := gtb_of (List.mem_append_right _ (List.mem_of_getElem? (i := 70) (by decide +kernel))) (by decide +kernel)
theorem wd_13 : Cond.fieldLink RX3 55 RX3 "isExpired" "Z" ∈ gtb := gtb_of (List.mem_append_right _ (List.mem_of_getElem? (i := 71) (by decide +kernel))) (by decide +kernel)
theorem wd_14 : Cond.fieldLink RX3 58 RX3 "badCycles" "I" ∈ gtb := gtb_of (List.mem_append_right _ (List.mem_of_getElem? (i := 73) (by decide +kernel))) (by decide +kernel)
theorem wd_15 : Cond.fieldLink RX3 61 RX3 "isLatched" "Z" ∈ gtb := gtb_of (List.mem_append_right _ (List.mem_of_getElem? (i := 75) (by decide +kernel))) (by decide +kernel)
theorem wd_16 : Cond.fieldLink RX3 67 RX3 "resets" "I" ∈ gtb := gtb_of (List.mem_append_right _ (List.mem_of_getElem? (i := 79) (by decide +kernel))) (by decide +kernel)
theorem wd_17 : Cond.fieldLink RX3 18 RX3 "settings" "[I" ∈ gtb := gtb_of (List.mem_append_right _ (List.mem_of_getElem? (i := 57) (by decide +kernel))) (by decide +kernel)
theorem wd_18 : Cond.methodLink RX3 70 arraycopyName ∈ gtb := gtb_of (List.mem_append_right _ (List.mem_of_getElem? (i := 248) (by decide +kernel))) (by decide +kernel)
theorem wd_19 : Cond.methodLink RX3 80 yX3_beginRun ∈ gtb := gtb_of (List.mem_append_right _ (List.mem_of_getElem? (i := 255) (by decide +kernel))) (by decide +kernel)
theorem wd_20 : Cond.methodLink RX3 83 yX3_clearDiagnostic ∈ gtb := gtb_of (List.mem_append_right _ (List.mem_of_getElem? (i := 259) (by decide +kernel))) (by decide +kernel)
theorem wd_21 : Cond.methodLink RX3 76 yX3_takeFault ∈ gtb := gtb_of (List.mem_append_right _ (List.mem_of_getElem? (i := 251) (by decide +kernel))) (by decide +kernel)
theorem wd_22 : Cond.fieldLink RX3 36 RX3 "hangs" "Z" ∈ gtb := gtb_of (List.mem_append_right _ (List.mem_of_getElem? (i := 65) (by decide +kernel))) (by decide +kernel)
theorem wd_23 : Cond.fieldLink RX3 39 RX3 "begin" "I" ∈ gtb := gtb_of (List.mem_append_right _ (List.mem_of_getElem? (i := 66) (by decide +kernel))) (by decide +kernel)
theorem wd_24 : Cond.fieldLink RX3 43 RX3 "left" "I" ∈ gtb := gtb_of (List.mem_append_right _ (List.mem_of_getElem? (i := 67) (by decide +kernel))) (by decide +kernel)
theorem wd_25 : Cond.methodLink RX3 90 yX3_crashesAtBegin ∈ gtb := gtb_of (List.mem_append_right _ (List.mem_of_getElem? (i := 301) (by decide +kernel))) (by decide +kernel)
theorem wd_26 : Cond.methodLink RX3 97 Lib.Math.max.name ∈ gtb := gtb_of (List.mem_append_right _ (List.mem_of_getElem? (i := 327) (by decide +kernel))) (by decide +kernel)
theorem wd_27 : Cond.static Lib.Math.max.name ∈ gtb := gtb_of (List.mem_append_right _ (List.mem_of_getElem? (i := 328) (by decide +kernel))) (by decide +kernel)
theorem wd_28 : Cond.initialized "java/lang/Math" ∈ gtb := gtb_of (List.mem_append_right _ (List.mem_of_getElem? (i := 7) (by decide +kernel))) (by decide +kernel)
theorem wd_29 : Cond.code Lib.Math.max.name Lib.Math.max.code 2 (some .int) ∈ gtb := gtb_of (List.mem_append_right _ (List.mem_of_getElem? (i := 329) (by decide +kernel))) (by decide +kernel)
theorem wd_30 : Cond.fieldLink RX3 64 RX3 "latchTime" "I" ∈ gtb := gtb_of (List.mem_append_right _ (List.mem_of_getElem? (i := 77) (by decide +kernel))) (by decide +kernel)
theorem wd_31 : Cond.fieldLink RX0 52 RX0 "bootLeft" "I" ∈ gtb := gtb_of (List.mem_append_right _ (List.mem_of_getElem? (i := 131) (by decide +kernel))) (by decide +kernel)
theorem wd_32 : Cond.fieldLink RX0 43 RX0 "mode" "I" ∈ gtb := gtb_of (List.mem_append_right _ (List.mem_of_getElem? (i := 125) (by decide +kernel))) (by decide +kernel)
theorem wd_33 : Cond.fieldLink RX0 55 RX0 "u" "I" ∈ gtb := gtb_of (List.mem_append_right _ (List.mem_of_getElem? (i := 133) (by decide +kernel))) (by decide +kernel)
theorem wd_34 : Cond.fieldLink RX0 58 RX0 "elapsed" "I" ∈ gtb := gtb_of (List.mem_append_right _ (List.mem_of_getElem? (i := 135) (by decide +kernel))) (by decide +kernel)
theorem wd_35 : Cond.fieldLink RX0 61 RX0 "runs" "I" ∈ gtb := gtb_of (List.mem_append_right _ (List.mem_of_getElem? (i := 137) (by decide +kernel))) (by decide +kernel)
theorem wd_36 : Cond.fieldLink RX0 64 RX0 "expiredRuns" "I" ∈ gtb := gtb_of (List.mem_append_right _ (List.mem_of_getElem? (i := 139) (by decide +kernel))) (by decide +kernel)
theorem wd_37 : Cond.fieldLink RX0 36 RX0 "taskCount" "I" ∈ gtb := gtb_of (List.mem_append_right _ (List.mem_of_getElem? (i := 121) (by decide +kernel))) (by decide +kernel)
theorem wd_38 : Cond.fieldLink RX0 25 RX0 "tasks" "[LWatchdogBoard$Task;" ∈ gtb := gtb_of (List.mem_append_right _ (List.mem_of_getElem? (i := 117) (by decide +kernel))) (by decide +kernel)
theorem wd_39 : Cond.methodLink RX0 102 yX3_beginRun ∈ gtb := gtb_of (List.mem_append_right _ (List.mem_of_getElem? (i := 289) (by decide +kernel))) (by decide +kernel)
theorem wd_40 : Cond.fieldLink RX0 18 RX0 "rules" "[I" ∈ gtb := gtb_of (List.mem_append_right _ (List.mem_of_getElem? (i := 115) (by decide +kernel))) (by decide +kernel)
theorem wd_41 : Cond.fieldLink RX0 32 RX0 "book" "LWatchdogBoard$Book;" ∈ gtb := gtb_of (List.mem_append_right _ (List.mem_of_getElem? (i := 119) (by decide +kernel))) (by decide +kernel)
theorem wd_42 : Cond.fieldLink RX0 40 RX0 "time" "I" ∈ gtb := gtb_of (List.mem_append_right _ (List.mem_of_getElem? (i := 123) (by decide +kernel))) (by decide +kernel)
theorem wd_43 : Cond.fieldLink RX0 46 RX0 "image" "I" ∈ gtb := gtb_of (List.mem_append_right _ (List.mem_of_getElem? (i := 127) (by decide +kernel))) (by decide +kernel)
theorem wd_44 : Cond.methodLink RX0 134 yX1_add ∈ gtb := gtb_of (List.mem_append_right _ (List.mem_of_getElem? (i := 309) (by decide +kernel))) (by decide +kernel)
theorem wd_45 : Cond.fieldLink RX0 138 RX3 "resets" "I" ∈ gtb := gtb_of (List.mem_append_right _ (List.mem_of_getElem? (i := 80) (by decide +kernel))) (by decide +kernel)
theorem wd_46 : Cond.fieldLink RX0 49 RX0 "attempts" "I" ∈ gtb := gtb_of (List.mem_append_right _ (List.mem_of_getElem? (i := 129) (by decide +kernel))) (by decide +kernel)
theorem wd_47 : Cond.methodLink RX0 85 yX0_boot ∈ gtb := gtb_of (List.mem_append_right _ (List.mem_of_getElem? (i := 313) (by decide +kernel))) (by decide +kernel)
theorem wd_48 : Cond.fieldLink RX0 88 RX3 "isExpired" "Z" ∈ gtb := gtb_of (List.mem_append_right _ (List.mem_of_getElem? (i := 72) (by decide +kernel))) (by decide +kernel)
theorem wd_49 : Cond.methodLink RX0 123 yX0_lowestExpired ∈ gtb := gtb_of (List.mem_append_right _ (List.mem_of_getElem? (i := 330) (by decide +kernel))) (by decide +kernel)
theorem wd_50 : Cond.fieldLink RX0 127 RX3 "settings" "[I" ∈ gtb := gtb_of (List.mem_append_right _ (List.mem_of_getElem? (i := 59) (by decide +kernel))) (by decide +kernel)
theorem wd_51 : Cond.methodLink RX0 130 yX3_endCycle ∈ gtb := gtb_of (List.mem_append_right _ (List.mem_of_getElem? (i := 322) (by decide +kernel))) (by decide +kernel)
theorem wd_52 : Cond.methodLink RX0 116 yX0_supervise ∈ gtb := gtb_of (List.mem_append_right _ (List.mem_of_getElem? (i := 318) (by decide +kernel))) (by decide +kernel)
theorem wd_53 : Cond.methodLink RX0 105 yX3_crashesInTick ∈ gtb := gtb_of (List.mem_append_right _ (List.mem_of_getElem? (i := 294) (by decide +kernel))) (by decide +kernel)
theorem wd_54 : Cond.methodLink RX0 109 yX0_fall ∈ gtb := gtb_of (List.mem_append_right _ (List.mem_of_getElem? (i := 305) (by decide +kernel))) (by decide +kernel)
theorem wd_55 : Cond.methodLink RX0 119 yX0_watch ∈ gtb := gtb_of (List.mem_append_right _ (List.mem_of_getElem? (i := 334) (by decide +kernel))) (by decide +kernel)
theorem wd_56 : Cond.methodLink RX0 99 yX0_tickRunning ∈ gtb := gtb_of (List.mem_append_right _ (List.mem_of_getElem? (i := 290) (by decide +kernel))) (by decide +kernel)
theorem wd_57 : Cond.methodLink RX0 96 yX0_tickBooting ∈ gtb := gtb_of (List.mem_append_right _ (List.mem_of_getElem? (i := 285) (by decide +kernel))) (by decide +kernel)
theorem wd_58 : Cond.methodLink RX0 68 arraycopyName ∈ gtb := gtb_of (List.mem_append_right _ (List.mem_of_getElem? (i := 366) (by decide +kernel))) (by decide +kernel)
theorem wd_59 : Cond.methodLink RX0 78 yX1_become ∈ gtb := gtb_of (List.mem_append_right _ (List.mem_of_getElem? (i := 371) (by decide +kernel))) (by decide +kernel)
theorem wd_60 : Cond.methodLink RX0 74 yX3_become ∈ gtb := gtb_of (List.mem_append_right _ (List.mem_of_getElem? (i := 367) (by decide +kernel))) (by decide +kernel)
theorem wd_61 : Cond.methodLink RX0 92 yX0_tick ∈ gtb := gtb_of (List.mem_append_right _ (List.mem_of_getElem? (i := 380) (by decide +kernel))) (by decide +kernel)
theorem wd_62 : Cond.methodLink RX4 75 yX4_isWithin ∈ gtb := gtb_of (List.mem_append_right _ (List.mem_of_getElem? (i := 233) (by decide +kernel))) (by decide +kernel)
theorem wd_63 : Cond.fieldLink RX4 34 RX4 "RULE_LOWEST" "[I" ∈ gtb := gtb_of (List.mem_append_right _ (List.mem_of_getElem? (i := 226) (by decide +kernel))) (by decide +kernel)
theorem wd_64 : Cond.fieldLink RX4 38 RX4 "RULE_GREATEST" "[I" ∈ gtb := gtb_of (List.mem_append_right _ (List.mem_of_getElem? (i := 228) (by decide +kernel))) (by decide +kernel)
theorem wd_65 : Cond.methodLink RX4 41 yX4_isAllowed ∈ gtb := gtb_of (List.mem_append_right _ (List.mem_of_getElem? (i := 230) (by decide +kernel))) (by decide +kernel)
theorem wd_66 : Cond.fieldLink RX4 10 RX4 "board" "LWatchdogBoard$Board;" ∈ gtb := gtb_of (List.mem_append_right _ (List.mem_of_getElem? (i := 206) (by decide +kernel))) (by decide +kernel)
theorem wd_67 : Cond.fieldLink RX4 45 RX0 "rules" "[I" ∈ gtb := gtb_of (List.mem_append_right _ (List.mem_of_getElem? (i := 116) (by decide +kernel))) (by decide +kernel)
theorem wd_68 : Cond.fieldLink RX4 48 RX4 "SETTING_LOWEST" "[I" ∈ gtb := gtb_of (List.mem_append_right _ (List.mem_of_getElem? (i := 240) (by decide +kernel))) (by decide +kernel)
theorem wd_69 : Cond.fieldLink RX4 51 RX4 "SETTING_GREATEST" "[I" ∈ gtb := gtb_of (List.mem_append_right _ (List.mem_of_getElem? (i := 242) (by decide +kernel))) (by decide +kernel)
theorem wd_70 : Cond.fieldLink RX4 54 RX0 "taskCount" "I" ∈ gtb := gtb_of (List.mem_append_right _ (List.mem_of_getElem? (i := 122) (by decide +kernel))) (by decide +kernel)
theorem wd_71 : Cond.fieldLink RX4 58 RX0 "tasks" "[LWatchdogBoard$Task;" ∈ gtb := gtb_of (List.mem_append_right _ (List.mem_of_getElem? (i := 118) (by decide +kernel))) (by decide +kernel)
theorem wd_72 : Cond.methodLink RX4 62 yX3_becomeNew ∈ gtb := gtb_of (List.mem_append_right _ (List.mem_of_getElem? (i := 244) (by decide +kernel))) (by decide +kernel)
theorem wd_73 : Cond.methodLink RX4 68 yX4_hasTask ∈ gtb := gtb_of (List.mem_append_right _ (List.mem_of_getElem? (i := 267) (by decide +kernel))) (by decide +kernel)
theorem wd_74 : Cond.fieldLink RX4 72 RX3 "settings" "[I" ∈ gtb := gtb_of (List.mem_append_right _ (List.mem_of_getElem? (i := 58) (by decide +kernel))) (by decide +kernel)
theorem wd_75 : Cond.fieldLink RX4 79 RX3 "faultKinds" "[I" ∈ gtb := gtb_of (List.mem_append_right _ (List.mem_of_getElem? (i := 61) (by decide +kernel))) (by decide +kernel)
theorem wd_76 : Cond.methodLink RX4 82 yX3_takeFault ∈ gtb := gtb_of (List.mem_append_right _ (List.mem_of_getElem? (i := 275) (by decide +kernel))) (by decide +kernel)
theorem wd_77 : Cond.fieldLink RX4 117 RX0 "time" "I" ∈ gtb := gtb_of (List.mem_append_right _ (List.mem_of_getElem? (i := 124) (by decide +kernel))) (by decide +kernel)
theorem wd_78 : Cond.constant RX4 120 (1000000) ∈ gtb := gtb_of (List.mem_append_right _ (List.mem_of_getElem? (i := 280) (by decide +kernel))) (by decide +kernel)
theorem wd_79 : Cond.methodLink RX4 121 yX0_tick ∈ gtb := gtb_of (List.mem_append_right _ (List.mem_of_getElem? (i := 281) (by decide +kernel))) (by decide +kernel)
theorem wd_80 : Cond.fieldLink RX4 129 RX0 "mode" "I" ∈ gtb := gtb_of (List.mem_append_right _ (List.mem_of_getElem? (i := 126) (by decide +kernel))) (by decide +kernel)
theorem wd_81 : Cond.methodLink RX4 150 yX0_switchOffAndOn ∈ gtb := gtb_of (List.mem_append_right _ (List.mem_of_getElem? (i := 342) (by decide +kernel))) (by decide +kernel)
theorem wd_82 : Cond.fieldLink RX4 153 RX0 "image" "I" ∈ gtb := gtb_of (List.mem_append_right _ (List.mem_of_getElem? (i := 128) (by decide +kernel))) (by decide +kernel)
theorem wd_83 : Cond.fieldLink RX4 156 RX0 "attempts" "I" ∈ gtb := gtb_of (List.mem_append_right _ (List.mem_of_getElem? (i := 130) (by decide +kernel))) (by decide +kernel)
theorem wd_84 : Cond.fieldLink RX4 159 RX0 "bootLeft" "I" ∈ gtb := gtb_of (List.mem_append_right _ (List.mem_of_getElem? (i := 132) (by decide +kernel))) (by decide +kernel)
theorem wd_85 : Cond.fieldLink RX4 162 RX0 "u" "I" ∈ gtb := gtb_of (List.mem_append_right _ (List.mem_of_getElem? (i := 134) (by decide +kernel))) (by decide +kernel)
theorem wd_86 : Cond.methodLink RX4 165 yX0_ifRunning ∈ gtb := gtb_of (List.mem_append_right _ (List.mem_of_getElem? (i := 350) (by decide +kernel))) (by decide +kernel)
theorem wd_87 : Cond.fieldLink RX4 132 RX0 "elapsed" "I" ∈ gtb := gtb_of (List.mem_append_right _ (List.mem_of_getElem? (i := 136) (by decide +kernel))) (by decide +kernel)
theorem wd_88 : Cond.fieldLink RX4 168 RX0 "runs" "I" ∈ gtb := gtb_of (List.mem_append_right _ (List.mem_of_getElem? (i := 138) (by decide +kernel))) (by decide +kernel)
theorem wd_89 : Cond.fieldLink RX4 171 RX0 "expiredRuns" "I" ∈ gtb := gtb_of (List.mem_append_right _ (List.mem_of_getElem? (i := 140) (by decide +kernel))) (by decide +kernel)
theorem wd_90 : Cond.fieldLink RX4 141 RX0 "book" "LWatchdogBoard$Book;" ∈ gtb := gtb_of (List.mem_append_right _ (List.mem_of_getElem? (i := 120) (by decide +kernel))) (by decide +kernel)
theorem wd_91 : Cond.fieldLink RX4 145 RX1 "count" "I" ∈ gtb := gtb_of (List.mem_append_right _ (List.mem_of_getElem? (i := 41) (by decide +kernel))) (by decide +kernel)
theorem wd_92 : Cond.methodLink RX4 174 yX0_expiredSet ∈ gtb := gtb_of (List.mem_append_right _ (List.mem_of_getElem? (i := 354) (by decide +kernel))) (by decide +kernel)
theorem wd_93 : Cond.fieldLink RX4 30 RX4 "pad" "LWatchdogBoard$Pad;" ∈ gtb := gtb_of (List.mem_append_right _ (List.mem_of_getElem? (i := 210) (by decide +kernel))) (by decide +kernel)
theorem wd_94 : Cond.fieldLink RX4 90 RX2 "length" "I" ∈ gtb := gtb_of (List.mem_append_right _ (List.mem_of_getElem? (i := 177) (by decide +kernel))) (by decide +kernel)
theorem wd_95 : Cond.fieldLink RX4 16 RX4 "trial" "LWatchdogBoard$Board;" ∈ gtb := gtb_of (List.mem_append_right _ (List.mem_of_getElem? (i := 207) (by decide +kernel))) (by decide +kernel)
theorem wd_96 : Cond.methodLink RX4 200 yX0_become ∈ gtb := gtb_of (List.mem_append_right _ (List.mem_of_getElem? (i := 362) (by decide +kernel))) (by decide +kernel)
theorem wd_97 : Cond.methodLink RX4 125 yX0_ticksToReset ∈ gtb := gtb_of (List.mem_append_right _ (List.mem_of_getElem? (i := 376) (by decide +kernel))) (by decide +kernel)
theorem wd_98 : Cond.fieldLink RX4 180 RX3 "badCycles" "I" ∈ gtb := gtb_of (List.mem_append_right _ (List.mem_of_getElem? (i := 74) (by decide +kernel))) (by decide +kernel)
theorem wd_99 : Cond.fieldLink RX4 183 RX3 "isLatched" "Z" ∈ gtb := gtb_of (List.mem_append_right _ (List.mem_of_getElem? (i := 76) (by decide +kernel))) (by decide +kernel)
theorem wd_100 : Cond.fieldLink RX4 187 RX3 "latchTime" "I" ∈ gtb := gtb_of (List.mem_append_right _ (List.mem_of_getElem? (i := 78) (by decide +kernel))) (by decide +kernel)
theorem wd_101 : Cond.fieldLink RX4 190 RX3 "resets" "I" ∈ gtb := gtb_of (List.mem_append_right _ (List.mem_of_getElem? (i := 81) (by decide +kernel))) (by decide +kernel)
theorem wd_102 : Cond.methodLink RX4 177 yX3_momentary ∈ gtb := gtb_of (List.mem_append_right _ (List.mem_of_getElem? (i := 395) (by decide +kernel))) (by decide +kernel)
theorem wd_103 : Cond.methodLink RX4 193 yX1_property ∈ gtb := gtb_of (List.mem_append_right _ (List.mem_of_getElem? (i := 415) (by decide +kernel))) (by decide +kernel)
theorem wd_104 : Cond.constant RL 7 (4194303) ∈ gtb := gtb_of (List.mem_append_right _ (List.mem_of_getElem? (i := 384) (by decide +kernel))) (by decide +kernel)
theorem wd_105 : Cond.methodLink RL 20 yX4_task ∈ gtb := gtb_of (List.mem_append_right _ (List.mem_of_getElem? (i := 391) (by decide +kernel))) (by decide +kernel)
theorem wd_106 : Cond.methodLink RL 10 yX4_state ∈ gtb := gtb_of (List.mem_append_right _ (List.mem_of_getElem? (i := 346) (by decide +kernel))) (by decide +kernel)
theorem wd_107 : Cond.methodLink RL 16 yL_anew ∈ gtb := gtb_of (List.mem_append_right _ (List.mem_of_getElem? (i := 402) (by decide +kernel))) (by decide +kernel)
theorem wd_108 : Cond.methodLink RL 32 yL_kicks ∈ gtb := gtb_of (List.mem_append_right _ (List.mem_of_getElem? (i := 405) (by decide +kernel))) (by decide +kernel)
theorem wd_109 : Cond.methodLink RL 24 yL_crashes ∈ gtb := gtb_of (List.mem_append_right _ (List.mem_of_getElem? (i := 388) (by decide +kernel))) (by decide +kernel)
theorem wd_110 : Cond.methodLink RL 28 yL_reset ∈ gtb := gtb_of (List.mem_append_right _ (List.mem_of_getElem? (i := 399) (by decide +kernel))) (by decide +kernel)
theorem wd_111 : Cond.methodLink RL 36 yX4_record ∈ gtb := gtb_of (List.mem_append_right _ (List.mem_of_getElem? (i := 411) (by decide +kernel))) (by decide +kernel)
theorem wd_112 : Cond.methodLink RL 40 yL_cell ∈ gtb := gtb_of (List.mem_append_right _ (List.mem_of_getElem? (i := 381) (by decide +kernel))) (by decide +kernel)
theorem wd_113 : Cond.methodLink RL 44 yX4_rule ∈ gtb := gtb_of (List.mem_append_right _ (List.mem_of_getElem? (i := 222) (by decide +kernel))) (by decide +kernel)
theorem wd_114 : Cond.methodLink RL 58 yX4_powerCycle ∈ gtb := gtb_of (List.mem_append_right _ (List.mem_of_getElem? (i := 338) (by decide +kernel))) (by decide +kernel)
theorem wd_115 : Cond.methodLink RL 47 yX4_addTask ∈ gtb := gtb_of (List.mem_append_right _ (List.mem_of_getElem? (i := 236) (by decide +kernel))) (by decide +kernel)
theorem wd_116 : Cond.methodLink RL 50 yX4_set ∈ gtb := gtb_of (List.mem_append_right _ (List.mem_of_getElem? (i := 263) (by decide +kernel))) (by decide +kernel)
theorem wd_117 : Cond.methodLink RL 54 yX4_putFault ∈ gtb := gtb_of (List.mem_append_right _ (List.mem_of_getElem? (i := 271) (by decide +kernel))) (by decide +kernel)
theorem wd_118 : Cond.methodLink RL 62 yX4_forecast ∈ gtb := gtb_of (List.mem_append_right _ (List.mem_of_getElem? (i := 358) (by decide +kernel))) (by decide +kernel)
theorem wd_119 : Cond.methodLink RL 65 yL_tick ∈ gtb := gtb_of (List.mem_append_right _ (List.mem_of_getElem? (i := 385) (by decide +kernel))) (by decide +kernel)
theorem wd_120 : Cond.methodLink RL 69 yX4_run ∈ gtb := gtb_of (List.mem_append_right _ (List.mem_of_getElem? (i := 276) (by decide +kernel))) (by decide +kernel)
theorem wd_121 : Cond.methodLink RL 72 yL_isTold ∈ gtb := gtb_of (List.mem_append_right _ (List.mem_of_getElem? (i := 408) (by decide +kernel))) (by decide +kernel)
theorem nw_0 : Cond.methodLinkNest RX1 19 yX4_isWithin "WatchdogBoard" ∈ ntb := by decide +kernel
theorem nw_1 : Cond.fieldLinkNest RX3 9 RX4 "SETTING_FIRST" "[I" "WatchdogBoard" ∈ ntb := by decide +kernel
theorem nw_2 : Cond.methodLinkNest RX3 86 yX4_divides "WatchdogBoard" ∈ ntb := by decide +kernel
theorem nw_3 : Cond.methodLinkNest RX3 93 yX4_isWithin "WatchdogBoard" ∈ ntb := by decide +kernel
theorem nw_4 : Cond.methodLinkNest RX0 113 yX4_divides "WatchdogBoard" ∈ ntb := by decide +kernel
theorem cy_X4_isWithin : CYs yX4_isWithin cX4_isWithin 3 (some .boolean) 3 := ⟨gtb_of (List.mem_append_right _ (List.mem_of_getElem? (i := 235) (by decide +kernel))) (by decide +kernel), gtb_of (List.mem_append_right _ (List.mem_of_getElem? (i := 234) (by decide +kernel))) (by decide +kernel), gtb_of (List.mem_append_right _ (List.mem_of_getElem? (i := 1) (by decide +kernel))) (by decide +kernel), by decide, by decide, by decide⟩
theorem cy_X3_beginRun : CYv yX3_beginRun cX3_beginRun 1 none 0 := ⟨gtb_of (List.mem_append_right _ (List.mem_of_getElem? (i := 258) (by decide +kernel))) (by decide +kernel), gtb_of (List.mem_append_right _ (List.mem_of_getElem? (i := 256) (by decide +kernel))) (by decide +kernel), gtb_of (List.mem_append_right _ (List.mem_of_getElem? (i := 257) (by decide +kernel))) (by decide +kernel), gtb_of (List.mem_append_right _ (List.mem_of_getElem? (i := 4) (by decide +kernel))) (by decide +kernel), by decide, by decide, by decide⟩
theorem cy_X3_clearDiagnostic : CYv yX3_clearDiagnostic cX3_clearDiagnostic 1 none 0 := ⟨gtb_of (List.mem_append_right _ (List.mem_of_getElem? (i := 262) (by decide +kernel))) (by decide +kernel), gtb_of (List.mem_append_right _ (List.mem_of_getElem? (i := 260) (by decide +kernel))) (by decide +kernel), gtb_of (List.mem_append_right _ (List.mem_of_getElem? (i := 261) (by decide +kernel))) (by decide +kernel), gtb_of (List.mem_append_right _ (List.mem_of_getElem? (i := 4) (by decide +kernel))) (by decide +kernel), by decide, by decide, by decide⟩
theorem cy_X3_takeFault : CYv yX3_takeFault cX3_takeFault 5 none 4 := ⟨gtb_of (List.mem_append_right _ (List.mem_of_getElem? (i := 254) (by decide +kernel))) (by decide +kernel), gtb_of (List.mem_append_right _ (List.mem_of_getElem? (i := 252) (by decide +kernel))) (by decide +kernel), gtb_of (List.mem_append_right _ (List.mem_of_getElem? (i := 253) (by decide +kernel))) (by decide +kernel), gtb_of (List.mem_append_right _ (List.mem_of_getElem? (i := 4) (by decide +kernel))) (by decide +kernel), by decide, by decide, by decide⟩
theorem cy_X4_divides : CYs yX4_divides cX4_divides 2 (some .boolean) 2 := ⟨gtb_of (List.mem_append_right _ (List.mem_of_getElem? (i := 300) (by decide +kernel))) (by decide +kernel), gtb_of (List.mem_append_right _ (List.mem_of_getElem? (i := 299) (by decide +kernel))) (by decide +kernel), gtb_of (List.mem_append_right _ (List.mem_of_getElem? (i := 1) (by decide +kernel))) (by decide +kernel), by decide, by decide, by decide⟩
theorem cy_X3_crashesAtBegin : CYv yX3_crashesAtBegin cX3_crashesAtBegin 5 (some .boolean) 2 := ⟨gtb_of (List.mem_append_right _ (List.mem_of_getElem? (i := 304) (by decide +kernel))) (by decide +kernel), gtb_of (List.mem_append_right _ (List.mem_of_getElem? (i := 303) (by decide +kernel))) (by decide +kernel), gtb_of (List.mem_append_left _ (List.mem_of_getElem? (i := 3) (by decide +kernel))) (by decide +kernel), gtb_of (List.mem_append_right _ (List.mem_of_getElem? (i := 4) (by decide +kernel))) (by decide +kernel), by decide, by decide, by decide⟩
theorem cy_X1_add : CYv yX1_add cX1_add 7 none 5 := ⟨gtb_of (List.mem_append_right _ (List.mem_of_getElem? (i := 312) (by decide +kernel))) (by decide +kernel), gtb_of (List.mem_append_right _ (List.mem_of_getElem? (i := 310) (by decide +kernel))) (by decide +kernel), gtb_of (List.mem_append_right _ (List.mem_of_getElem? (i := 311) (by decide +kernel))) (by decide +kernel), gtb_of (List.mem_append_right _ (List.mem_of_getElem? (i := 3) (by decide +kernel))) (by decide +kernel), by decide, by decide, by decide⟩
theorem cy_X0_boot : CYv yX0_boot cX0_boot 1 none 0 := ⟨gtb_of (List.mem_append_right _ (List.mem_of_getElem? (i := 316) (by decide +kernel))) (by decide +kernel), gtb_of (List.mem_append_right _ (List.mem_of_getElem? (i := 315) (by decide +kernel))) (by decide +kernel), gtb_of (List.mem_append_left _ (List.mem_of_getElem? (i := 4) (by decide +kernel))) (by decide +kernel), gtb_of (List.mem_append_right _ (List.mem_of_getElem? (i := 2) (by decide +kernel))) (by decide +kernel), by decide, by decide, by decide⟩
theorem cy_X0_lowestExpired : CYv yX0_lowestExpired cX0_lowestExpired 2 (some .int) 0 := ⟨gtb_of (List.mem_append_right _ (List.mem_of_getElem? (i := 333) (by decide +kernel))) (by decide +kernel), gtb_of (List.mem_append_right _ (List.mem_of_getElem? (i := 331) (by decide +kernel))) (by decide +kernel), gtb_of (List.mem_append_right _ (List.mem_of_getElem? (i := 332) (by decide +kernel))) (by decide +kernel), gtb_of (List.mem_append_right _ (List.mem_of_getElem? (i := 2) (by decide +kernel))) (by decide +kernel), by decide, by decide, by decide⟩
theorem cy_X3_endCycle : CYv yX3_endCycle cX3_endCycle 3 none 1 := ⟨gtb_of (List.mem_append_right _ (List.mem_of_getElem? (i := 325) (by decide +kernel))) (by decide +kernel), gtb_of (List.mem_append_right _ (List.mem_of_getElem? (i := 323) (by decide +kernel))) (by decide +kernel), gtb_of (List.mem_append_right _ (List.mem_of_getElem? (i := 324) (by decide +kernel))) (by decide +kernel), gtb_of (List.mem_append_right _ (List.mem_of_getElem? (i := 4) (by decide +kernel))) (by decide +kernel), by decide, by decide, by decide⟩
theorem cy_X0_supervise : CYv yX0_supervise cX0_supervise 3 (some .boolean) 0 := ⟨gtb_of (List.mem_append_right _ (List.mem_of_getElem? (i := 321) (by decide +kernel))) (by decide +kernel), gtb_of (List.mem_append_right _ (List.mem_of_getElem? (i := 320) (by decide +kernel))) (by decide +kernel), gtb_of (List.mem_append_left _ (List.mem_of_getElem? (i := 5) (by decide +kernel))) (by decide +kernel), gtb_of (List.mem_append_right _ (List.mem_of_getElem? (i := 2) (by decide +kernel))) (by decide +kernel), by decide, by decide, by decide⟩
theorem cy_X3_crashesInTick : CYv yX3_crashesInTick cX3_crashesInTick 3 (some .boolean) 2 := ⟨gtb_of (List.mem_append_right _ (List.mem_of_getElem? (i := 297) (by decide +kernel))) (by decide +kernel), gtb_of (List.mem_append_right _ (List.mem_of_getElem? (i := 295) (by decide +kernel))) (by decide +kernel), gtb_of (List.mem_append_right _ (List.mem_of_getElem? (i := 296) (by decide +kernel))) (by decide +kernel), gtb_of (List.mem_append_right _ (List.mem_of_getElem? (i := 4) (by decide +kernel))) (by decide +kernel), by decide, by decide, by decide⟩
theorem cy_X0_fall : CYv yX0_fall cX0_fall 4 none 2 := ⟨gtb_of (List.mem_append_right _ (List.mem_of_getElem? (i := 308) (by decide +kernel))) (by decide +kernel), gtb_of (List.mem_append_right _ (List.mem_of_getElem? (i := 306) (by decide +kernel))) (by decide +kernel), gtb_of (List.mem_append_right _ (List.mem_of_getElem? (i := 307) (by decide +kernel))) (by decide +kernel), gtb_of (List.mem_append_right _ (List.mem_of_getElem? (i := 2) (by decide +kernel))) (by decide +kernel), by decide, by decide, by decide⟩
theorem cy_X0_watch : CYv yX0_watch cX0_watch 2 (some .int) 1 := ⟨gtb_of (List.mem_append_right _ (List.mem_of_getElem? (i := 337) (by decide +kernel))) (by decide +kernel), gtb_of (List.mem_append_right _ (List.mem_of_getElem? (i := 336) (by decide +kernel))) (by decide +kernel), gtb_of (List.mem_append_left _ (List.mem_of_getElem? (i := 6) (by decide +kernel))) (by decide +kernel), gtb_of (List.mem_append_right _ (List.mem_of_getElem? (i := 2) (by decide +kernel))) (by decide +kernel), by decide, by decide, by decide⟩
theorem cy_X0_tickRunning : CYv yX0_tickRunning cX0_tickRunning 3 (some .boolean) 0 := ⟨gtb_of (List.mem_append_right _ (List.mem_of_getElem? (i := 293) (by decide +kernel))) (by decide +kernel), gtb_of (List.mem_append_right _ (List.mem_of_getElem? (i := 292) (by decide +kernel))) (by decide +kernel), gtb_of (List.mem_append_left _ (List.mem_of_getElem? (i := 2) (by decide +kernel))) (by decide +kernel), gtb_of (List.mem_append_right _ (List.mem_of_getElem? (i := 2) (by decide +kernel))) (by decide +kernel), by decide, by decide, by decide⟩
theorem cy_X0_tickBooting : CYv yX0_tickBooting cX0_tickBooting 2 none 0 := ⟨gtb_of (List.mem_append_right _ (List.mem_of_getElem? (i := 288) (by decide +kernel))) (by decide +kernel), gtb_of (List.mem_append_right _ (List.mem_of_getElem? (i := 287) (by decide +kernel))) (by decide +kernel), gtb_of (List.mem_append_left _ (List.mem_of_getElem? (i := 1) (by decide +kernel))) (by decide +kernel), gtb_of (List.mem_append_right _ (List.mem_of_getElem? (i := 2) (by decide +kernel))) (by decide +kernel), by decide, by decide, by decide⟩
theorem cy_X1_become : CYv yX1_become cX1_become 2 none 1 := ⟨gtb_of (List.mem_append_right _ (List.mem_of_getElem? (i := 374) (by decide +kernel))) (by decide +kernel), gtb_of (List.mem_append_right _ (List.mem_of_getElem? (i := 372) (by decide +kernel))) (by decide +kernel), gtb_of (List.mem_append_right _ (List.mem_of_getElem? (i := 373) (by decide +kernel))) (by decide +kernel), gtb_of (List.mem_append_right _ (List.mem_of_getElem? (i := 3) (by decide +kernel))) (by decide +kernel), by decide, by decide, by decide⟩
theorem cy_X3_become : CYv yX3_become cX3_become 2 none 1 := ⟨gtb_of (List.mem_append_right _ (List.mem_of_getElem? (i := 370) (by decide +kernel))) (by decide +kernel), gtb_of (List.mem_append_right _ (List.mem_of_getElem? (i := 368) (by decide +kernel))) (by decide +kernel), gtb_of (List.mem_append_right _ (List.mem_of_getElem? (i := 369) (by decide +kernel))) (by decide +kernel), gtb_of (List.mem_append_right _ (List.mem_of_getElem? (i := 4) (by decide +kernel))) (by decide +kernel), by decide, by decide, by decide⟩
theorem cy_X0_tick : CYv yX0_tick cX0_tick 2 (some .boolean) 0 := ⟨gtb_of (List.mem_append_right _ (List.mem_of_getElem? (i := 284) (by decide +kernel))) (by decide +kernel), gtb_of (List.mem_append_right _ (List.mem_of_getElem? (i := 282) (by decide +kernel))) (by decide +kernel), gtb_of (List.mem_append_right _ (List.mem_of_getElem? (i := 283) (by decide +kernel))) (by decide +kernel), gtb_of (List.mem_append_right _ (List.mem_of_getElem? (i := 2) (by decide +kernel))) (by decide +kernel), by decide, by decide, by decide⟩
theorem cy_X4_isAllowed : CYs yX4_isAllowed cX4_isAllowed 4 (some .boolean) 4 := ⟨gtb_of (List.mem_append_right _ (List.mem_of_getElem? (i := 232) (by decide +kernel))) (by decide +kernel), gtb_of (List.mem_append_right _ (List.mem_of_getElem? (i := 231) (by decide +kernel))) (by decide +kernel), gtb_of (List.mem_append_right _ (List.mem_of_getElem? (i := 1) (by decide +kernel))) (by decide +kernel), by decide, by decide, by decide⟩
theorem cy_X3_becomeNew : CYv yX3_becomeNew cX3_becomeNew 4 none 2 := ⟨gtb_of (List.mem_append_right _ (List.mem_of_getElem? (i := 247) (by decide +kernel))) (by decide +kernel), gtb_of (List.mem_append_right _ (List.mem_of_getElem? (i := 245) (by decide +kernel))) (by decide +kernel), gtb_of (List.mem_append_right _ (List.mem_of_getElem? (i := 246) (by decide +kernel))) (by decide +kernel), gtb_of (List.mem_append_right _ (List.mem_of_getElem? (i := 4) (by decide +kernel))) (by decide +kernel), by decide, by decide, by decide⟩
theorem cy_X4_hasTask : CYv yX4_hasTask cX4_hasTask 2 (some .boolean) 1 := ⟨gtb_of (List.mem_append_right _ (List.mem_of_getElem? (i := 270) (by decide +kernel))) (by decide +kernel), gtb_of (List.mem_append_right _ (List.mem_of_getElem? (i := 269) (by decide +kernel))) (by decide +kernel), gtb_of (List.mem_append_left _ (List.mem_of_getElem? (i := 0) (by decide +kernel))) (by decide +kernel), gtb_of (List.mem_append_right _ (List.mem_of_getElem? (i := 1) (by decide +kernel))) (by decide +kernel), by decide, by decide, by decide⟩
theorem cy_X0_switchOffAndOn : CYv yX0_switchOffAndOn cX0_switchOffAndOn 1 none 0 := ⟨gtb_of (List.mem_append_right _ (List.mem_of_getElem? (i := 345) (by decide +kernel))) (by decide +kernel), gtb_of (List.mem_append_right _ (List.mem_of_getElem? (i := 343) (by decide +kernel))) (by decide +kernel), gtb_of (List.mem_append_right _ (List.mem_of_getElem? (i := 344) (by decide +kernel))) (by decide +kernel), gtb_of (List.mem_append_right _ (List.mem_of_getElem? (i := 2) (by decide +kernel))) (by decide +kernel), by decide, by decide, by decide⟩
theorem cy_X0_ifRunning : CYv yX0_ifRunning cX0_ifRunning 2 (some .int) 1 := ⟨gtb_of (List.mem_append_right _ (List.mem_of_getElem? (i := 353) (by decide +kernel))) (by decide +kernel), gtb_of (List.mem_append_right _ (List.mem_of_getElem? (i := 351) (by decide +kernel))) (by decide +kernel), gtb_of (List.mem_append_right _ (List.mem_of_getElem? (i := 352) (by decide +kernel))) (by decide +kernel), gtb_of (List.mem_append_right _ (List.mem_of_getElem? (i := 2) (by decide +kernel))) (by decide +kernel), by decide, by decide, by decide⟩
theorem cy_X0_expiredSet : CYv yX0_expiredSet cX0_expiredSet 3 (some .int) 0 := ⟨gtb_of (List.mem_append_right _ (List.mem_of_getElem? (i := 357) (by decide +kernel))) (by decide +kernel), gtb_of (List.mem_append_right _ (List.mem_of_getElem? (i := 355) (by decide +kernel))) (by decide +kernel), gtb_of (List.mem_append_right _ (List.mem_of_getElem? (i := 356) (by decide +kernel))) (by decide +kernel), gtb_of (List.mem_append_right _ (List.mem_of_getElem? (i := 2) (by decide +kernel))) (by decide +kernel), by decide, by decide, by decide⟩
theorem cy_X0_become : CYv yX0_become cX0_become 3 none 1 := ⟨gtb_of (List.mem_append_right _ (List.mem_of_getElem? (i := 365) (by decide +kernel))) (by decide +kernel), gtb_of (List.mem_append_right _ (List.mem_of_getElem? (i := 363) (by decide +kernel))) (by decide +kernel), gtb_of (List.mem_append_right _ (List.mem_of_getElem? (i := 364) (by decide +kernel))) (by decide +kernel), gtb_of (List.mem_append_right _ (List.mem_of_getElem? (i := 2) (by decide +kernel))) (by decide +kernel), by decide, by decide, by decide⟩
theorem cy_X0_ticksToReset : CYv yX0_ticksToReset cX0_ticksToReset 3 (some .int) 1 := ⟨gtb_of (List.mem_append_right _ (List.mem_of_getElem? (i := 379) (by decide +kernel))) (by decide +kernel), gtb_of (List.mem_append_right _ (List.mem_of_getElem? (i := 377) (by decide +kernel))) (by decide +kernel), gtb_of (List.mem_append_right _ (List.mem_of_getElem? (i := 378) (by decide +kernel))) (by decide +kernel), gtb_of (List.mem_append_right _ (List.mem_of_getElem? (i := 2) (by decide +kernel))) (by decide +kernel), by decide, by decide, by decide⟩
theorem cy_X3_momentary : CYv yX3_momentary cX3_momentary 2 (some .int) 1 := ⟨gtb_of (List.mem_append_right _ (List.mem_of_getElem? (i := 398) (by decide +kernel))) (by decide +kernel), gtb_of (List.mem_append_right _ (List.mem_of_getElem? (i := 396) (by decide +kernel))) (by decide +kernel), gtb_of (List.mem_append_right _ (List.mem_of_getElem? (i := 397) (by decide +kernel))) (by decide +kernel), gtb_of (List.mem_append_right _ (List.mem_of_getElem? (i := 4) (by decide +kernel))) (by decide +kernel), by decide, by decide, by decide⟩
theorem cy_X1_property : CYv yX1_property cX1_property 3 (some .int) 2 := ⟨gtb_of (List.mem_append_right _ (List.mem_of_getElem? (i := 418) (by decide +kernel))) (by decide +kernel), gtb_of (List.mem_append_right _ (List.mem_of_getElem? (i := 416) (by decide +kernel))) (by decide +kernel), gtb_of (List.mem_append_right _ (List.mem_of_getElem? (i := 417) (by decide +kernel))) (by decide +kernel), gtb_of (List.mem_append_right _ (List.mem_of_getElem? (i := 3) (by decide +kernel))) (by decide +kernel), by decide, by decide, by decide⟩
theorem cy_X4_task : CYv yX4_task cX4_task 4 (some .int) 2 := ⟨gtb_of (List.mem_append_right _ (List.mem_of_getElem? (i := 394) (by decide +kernel))) (by decide +kernel), gtb_of (List.mem_append_right _ (List.mem_of_getElem? (i := 392) (by decide +kernel))) (by decide +kernel), gtb_of (List.mem_append_right _ (List.mem_of_getElem? (i := 393) (by decide +kernel))) (by decide +kernel), gtb_of (List.mem_append_right _ (List.mem_of_getElem? (i := 1) (by decide +kernel))) (by decide +kernel), by decide, by decide, by decide⟩
theorem cy_X4_state : CYv yX4_state cX4_state 2 (some .int) 1 := ⟨gtb_of (List.mem_append_right _ (List.mem_of_getElem? (i := 349) (by decide +kernel))) (by decide +kernel), gtb_of (List.mem_append_right _ (List.mem_of_getElem? (i := 347) (by decide +kernel))) (by decide +kernel), gtb_of (List.mem_append_right _ (List.mem_of_getElem? (i := 348) (by decide +kernel))) (by decide +kernel), gtb_of (List.mem_append_right _ (List.mem_of_getElem? (i := 1) (by decide +kernel))) (by decide +kernel), by decide, by decide, by decide⟩
theorem cy_L_anew : CYs yL_anew cL_anew 3 none 2 := ⟨gtb_of (List.mem_append_right _ (List.mem_of_getElem? (i := 404) (by decide +kernel))) (by decide +kernel), gtb_of (List.mem_append_right _ (List.mem_of_getElem? (i := 403) (by decide +kernel))) (by decide +kernel), gtb_of (List.mem_append_right _ (List.mem_of_getElem? (i := 0) (by decide +kernel))) (by decide +kernel), by decide, by decide, by decide⟩
theorem cy_L_kicks : CYs yL_kicks cL_kicks 8 (some .boolean) 4 := ⟨gtb_of (List.mem_append_right _ (List.mem_of_getElem? (i := 407) (by decide +kernel))) (by decide +kernel), gtb_of (List.mem_append_right _ (List.mem_of_getElem? (i := 406) (by decide +kernel))) (by decide +kernel), gtb_of (List.mem_append_right _ (List.mem_of_getElem? (i := 0) (by decide +kernel))) (by decide +kernel), by decide, by decide, by decide⟩
theorem cy_L_crashes : CYs yL_crashes cL_crashes 9 (some .boolean) 5 := ⟨gtb_of (List.mem_append_right _ (List.mem_of_getElem? (i := 390) (by decide +kernel))) (by decide +kernel), gtb_of (List.mem_append_right _ (List.mem_of_getElem? (i := 389) (by decide +kernel))) (by decide +kernel), gtb_of (List.mem_append_right _ (List.mem_of_getElem? (i := 0) (by decide +kernel))) (by decide +kernel), by decide, by decide, by decide⟩
theorem cy_L_reset : CYs yL_reset cL_reset 9 none 6 := ⟨gtb_of (List.mem_append_right _ (List.mem_of_getElem? (i := 401) (by decide +kernel))) (by decide +kernel), gtb_of (List.mem_append_right _ (List.mem_of_getElem? (i := 400) (by decide +kernel))) (by decide +kernel), gtb_of (List.mem_append_right _ (List.mem_of_getElem? (i := 0) (by decide +kernel))) (by decide +kernel), by decide, by decide, by decide⟩
theorem cy_X4_record : CYv yX4_record cX4_record 3 (some .int) 2 := ⟨gtb_of (List.mem_append_right _ (List.mem_of_getElem? (i := 414) (by decide +kernel))) (by decide +kernel), gtb_of (List.mem_append_right _ (List.mem_of_getElem? (i := 412) (by decide +kernel))) (by decide +kernel), gtb_of (List.mem_append_right _ (List.mem_of_getElem? (i := 413) (by decide +kernel))) (by decide +kernel), gtb_of (List.mem_append_right _ (List.mem_of_getElem? (i := 1) (by decide +kernel))) (by decide +kernel), by decide, by decide, by decide⟩
theorem cy_L_cell : CYs yL_cell cL_cell 3 (some .int) 3 := ⟨gtb_of (List.mem_append_right _ (List.mem_of_getElem? (i := 383) (by decide +kernel))) (by decide +kernel), gtb_of (List.mem_append_right _ (List.mem_of_getElem? (i := 382) (by decide +kernel))) (by decide +kernel), gtb_of (List.mem_append_right _ (List.mem_of_getElem? (i := 0) (by decide +kernel))) (by decide +kernel), by decide, by decide, by decide⟩
theorem cy_X4_rule : CYv yX4_rule cX4_rule 4 (some .int) 2 := ⟨gtb_of (List.mem_append_right _ (List.mem_of_getElem? (i := 225) (by decide +kernel))) (by decide +kernel), gtb_of (List.mem_append_right _ (List.mem_of_getElem? (i := 223) (by decide +kernel))) (by decide +kernel), gtb_of (List.mem_append_right _ (List.mem_of_getElem? (i := 224) (by decide +kernel))) (by decide +kernel), gtb_of (List.mem_append_right _ (List.mem_of_getElem? (i := 1) (by decide +kernel))) (by decide +kernel), by decide, by decide, by decide⟩
theorem cy_X4_powerCycle : CYv yX4_powerCycle cX4_powerCycle 2 (some .int) 0 := ⟨gtb_of (List.mem_append_right _ (List.mem_of_getElem? (i := 341) (by decide +kernel))) (by decide +kernel), gtb_of (List.mem_append_right _ (List.mem_of_getElem? (i := 339) (by decide +kernel))) (by decide +kernel), gtb_of (List.mem_append_right _ (List.mem_of_getElem? (i := 340) (by decide +kernel))) (by decide +kernel), gtb_of (List.mem_append_right _ (List.mem_of_getElem? (i := 1) (by decide +kernel))) (by decide +kernel), by decide, by decide, by decide⟩
theorem cy_X4_addTask : CYv yX4_addTask cX4_addTask 4 (some .int) 2 := ⟨gtb_of (List.mem_append_right _ (List.mem_of_getElem? (i := 239) (by decide +kernel))) (by decide +kernel), gtb_of (List.mem_append_right _ (List.mem_of_getElem? (i := 237) (by decide +kernel))) (by decide +kernel), gtb_of (List.mem_append_right _ (List.mem_of_getElem? (i := 238) (by decide +kernel))) (by decide +kernel), gtb_of (List.mem_append_right _ (List.mem_of_getElem? (i := 1) (by decide +kernel))) (by decide +kernel), by decide, by decide, by decide⟩
theorem cy_X4_set : CYv yX4_set cX4_set 6 (some .int) 3 := ⟨gtb_of (List.mem_append_right _ (List.mem_of_getElem? (i := 266) (by decide +kernel))) (by decide +kernel), gtb_of (List.mem_append_right _ (List.mem_of_getElem? (i := 264) (by decide +kernel))) (by decide +kernel), gtb_of (List.mem_append_right _ (List.mem_of_getElem? (i := 265) (by decide +kernel))) (by decide +kernel), gtb_of (List.mem_append_right _ (List.mem_of_getElem? (i := 1) (by decide +kernel))) (by decide +kernel), by decide, by decide, by decide⟩
theorem cy_X4_putFault : CYv yX4_putFault cX4_putFault 7 (some .int) 5 := ⟨gtb_of (List.mem_append_right _ (List.mem_of_getElem? (i := 274) (by decide +kernel))) (by decide +kernel), gtb_of (List.mem_append_right _ (List.mem_of_getElem? (i := 272) (by decide +kernel))) (by decide +kernel), gtb_of (List.mem_append_right _ (List.mem_of_getElem? (i := 273) (by decide +kernel))) (by decide +kernel), gtb_of (List.mem_append_right _ (List.mem_of_getElem? (i := 1) (by decide +kernel))) (by decide +kernel), by decide, by decide, by decide⟩
theorem cy_X4_forecast : CYv yX4_forecast cX4_forecast 2 (some .int) 1 := ⟨gtb_of (List.mem_append_right _ (List.mem_of_getElem? (i := 361) (by decide +kernel))) (by decide +kernel), gtb_of (List.mem_append_right _ (List.mem_of_getElem? (i := 359) (by decide +kernel))) (by decide +kernel), gtb_of (List.mem_append_right _ (List.mem_of_getElem? (i := 360) (by decide +kernel))) (by decide +kernel), gtb_of (List.mem_append_right _ (List.mem_of_getElem? (i := 1) (by decide +kernel))) (by decide +kernel), by decide, by decide, by decide⟩
theorem cy_L_tick : CYs yL_tick cL_tick 7 none 6 := ⟨gtb_of (List.mem_append_right _ (List.mem_of_getElem? (i := 387) (by decide +kernel))) (by decide +kernel), gtb_of (List.mem_append_right _ (List.mem_of_getElem? (i := 386) (by decide +kernel))) (by decide +kernel), gtb_of (List.mem_append_right _ (List.mem_of_getElem? (i := 0) (by decide +kernel))) (by decide +kernel), by decide, by decide, by decide⟩
theorem cy_X4_run : CYv yX4_run cX4_run 3 (some .int) 1 := ⟨gtb_of (List.mem_append_right _ (List.mem_of_getElem? (i := 279) (by decide +kernel))) (by decide +kernel), gtb_of (List.mem_append_right _ (List.mem_of_getElem? (i := 277) (by decide +kernel))) (by decide +kernel), gtb_of (List.mem_append_right _ (List.mem_of_getElem? (i := 278) (by decide +kernel))) (by decide +kernel), gtb_of (List.mem_append_right _ (List.mem_of_getElem? (i := 1) (by decide +kernel))) (by decide +kernel), by decide, by decide, by decide⟩
theorem cy_L_isTold : CYs yL_isTold cL_isTold 7 (some .boolean) 4 := ⟨gtb_of (List.mem_append_right _ (List.mem_of_getElem? (i := 410) (by decide +kernel))) (by decide +kernel), gtb_of (List.mem_append_right _ (List.mem_of_getElem? (i := 409) (by decide +kernel))) (by decide +kernel), gtb_of (List.mem_append_right _ (List.mem_of_getElem? (i := 0) (by decide +kernel))) (by decide +kernel), by decide, by decide, by decide⟩
end
section
abbrev rm_X4_isWithin : Room := { frames := 0, cells := 0, slots := 0, locals := 0 }
def f_X4_isWithin_15 (a0 : Int32) (a1 : Int32) (a2 : Int32)  (s0 : Int32) (σ : Sg) : Option (Int32 × Sg) :=
if s0 = 0 ∨ s0 = 1 then some (s0, σ) else none
set_option maxHeartbeats 4000000 in
set_option maxRecDepth 100000 in
theorem w_X4_isWithin_15 {p : Program} {l : Launch} {e : Env} {s : State} {m : MethodId} {args : Array Value} {below : List Frame} {meth : Method} {c : Code} {Γ : GG} {res : Int32 × Sg} (M : MX RX4 cX4_isWithin 3 (some .boolean) p s m args meth c) (K : KK Γ s s.heap) (a0 : Int32) (a1 : Int32) (a2 : Int32) (s0 : Int32) (σ : Sg) (H : Heap) (locs : List Loc) (ls : Array Slot)  (hB : Bd Γ σ s H locs) (hl : lv_has ls 3 []) (hr : f_X4_isWithin_15 a0 a1 a2  s0 σ = some res) : WI Γ rm_X4_isWithin p l e s m args below meth c H locs res (F0 m 15 ls [.int s0]) := by
  unfold f_X4_isWithin_15 at hr
  obtain ⟨g_3, hr⟩ := gd2 hr
  exact x_zret M hB (nar_z g_3) (Option.some.inj hr) dX4_isWithin_15
def f_X4_isWithin_14 (a0 : Int32) (a1 : Int32) (a2 : Int32)   (σ : Sg) : Option (Int32 × Sg) :=
f_X4_isWithin_15 a0 a1 a2  0 σ
set_option maxHeartbeats 4000000 in
set_option maxRecDepth 100000 in
theorem w_X4_isWithin_14 {p : Program} {l : Launch} {e : Env} {s : State} {m : MethodId} {args : Array Value} {below : List Frame} {meth : Method} {c : Code} {Γ : GG} {res : Int32 × Sg} (M : MX RX4 cX4_isWithin 3 (some .boolean) p s m args meth c) (K : KK Γ s s.heap) (a0 : Int32) (a1 : Int32) (a2 : Int32)  (σ : Sg) (H : Heap) (locs : List Loc) (ls : Array Slot)  (hB : Bd Γ σ s H locs) (hl : lv_has ls 3 []) (hr : f_X4_isWithin_14 a0 a1 a2   σ = some res) : WI Γ rm_X4_isWithin p l e s m args below meth c H locs res (F0 m 14 ls []) := by
  unfold f_X4_isWithin_14 at hr
  refine lv_iconst (v := 0) M.1 M.2.1 dX4_isWithin_14 (by decide) ?_
  exact w_X4_isWithin_15 M K a0 a1 a2  0 _ _ _ _  hB (lv_sub hl [] rfl) hr
def f_X4_isWithin_0 (a0 : Int32) (a1 : Int32) (a2 : Int32)   (σ : Sg) : Option (Int32 × Sg) :=
if a0 < a1 then
f_X4_isWithin_14 a0 a1 a2   σ
else
if a2 < a0 then
f_X4_isWithin_14 a0 a1 a2   σ
else
f_X4_isWithin_15 a0 a1 a2  1 σ
set_option maxHeartbeats 4000000 in
set_option maxRecDepth 100000 in
theorem w_X4_isWithin_0 {p : Program} {l : Launch} {e : Env} {s : State} {m : MethodId} {args : Array Value} {below : List Frame} {meth : Method} {c : Code} {Γ : GG} {res : Int32 × Sg} (M : MX RX4 cX4_isWithin 3 (some .boolean) p s m args meth c) (K : KK Γ s s.heap) (a0 : Int32) (a1 : Int32) (a2 : Int32)  (σ : Sg) (H : Heap) (locs : List Loc) (ls : Array Slot)  (hB : Bd Γ σ s H locs) (hl : lv_has ls 3 [(0, .int a0), (1, .int a1), (2, .int a2)]) (hr : f_X4_isWithin_0 a0 a1 a2   σ = some res) : WI Γ rm_X4_isWithin p l e s m args below meth c H locs res (F0 m 0 ls []) := by
  unfold f_X4_isWithin_0 at hr
  refine lv_iload_n M.1 M.2.1 dX4_isWithin_0 rfl (lv_at hl 0 rfl) ?_
  refine lv_iload_n M.1 M.2.1 dX4_isWithin_1 rfl (lv_at hl 1 rfl) ?_
  refine lv_icmp_lt (tgt := 14) M.1 M.2.1 dX4_isWithin_2 (by decide) (fun c_1 => ?_) (fun c_1 => ?_)
  · rw [if_pos c_1] at hr
    exact w_X4_isWithin_14 M K a0 a1 a2   _ _ _ _  hB (lv_sub hl [] rfl) hr
  · rw [if_neg c_1] at hr
    refine lv_iload_n M.1 M.2.1 dX4_isWithin_5 rfl (lv_at hl 0 rfl) ?_
    refine lv_iload_n M.1 M.2.1 dX4_isWithin_6 rfl (lv_at hl 2 rfl) ?_
    refine lv_icmp_gt (tgt := 14) M.1 M.2.1 dX4_isWithin_7 (by decide) (fun c_2 => ?_) (fun c_2 => ?_)
    · rw [if_pos c_2] at hr
      exact w_X4_isWithin_14 M K a0 a1 a2   _ _ _ _  hB (lv_sub hl [] rfl) hr
    · rw [if_neg c_2] at hr
      refine lv_iconst (v := 1) M.1 M.2.1 dX4_isWithin_10 (by decide) ?_
      refine lv_goto (tgt := 15) M.1 M.2.1 dX4_isWithin_11 (by decide) ?_
      exact w_X4_isWithin_15 M K a0 a1 a2  1 _ _ _ _  hB (lv_sub hl [] rfl) hr
theorem c_X4_isWithin (l : Launch) (Γ : GG) (a0 : Int32) (a1 : Int32) (a2 : Int32)  (σ : Sg) (res : Int32 × Sg) (hr : f_X4_isWithin_0 a0 a1 a2 σ = some res) : Met l yX4_isWithin (Cond.code yX4_isWithin cX4_isWithin 3 (some .boolean) :: gtb) rm_X4_isWithin (va_Pc [.int a0, .int a1, .int a2] (GI Γ σ)) (QI Γ res) 0 0 (AD Γ) :=
  x_metI (by decide) [.int a0, .int a1, .int a2] (Nat.le_of_ble_eq_true rfl) (fun p e s m args below meth c M K ls hl hB => w_X4_isWithin_0 M K a0 a1 a2 σ _ _ ls hB hl hr)
abbrev rm_X4_divides : Room := { frames := 0, cells := 0, slots := 0, locals := 0 }
def f_X4_divides_15 (a0 : Int32) (a1 : Int32)  (s0 : Int32) (σ : Sg) : Option (Int32 × Sg) :=
if s0 = 0 ∨ s0 = 1 then some (s0, σ) else none
set_option maxHeartbeats 4000000 in
set_option maxRecDepth 100000 in
theorem w_X4_divides_15 {p : Program} {l : Launch} {e : Env} {s : State} {m : MethodId} {args : Array Value} {below : List Frame} {meth : Method} {c : Code} {Γ : GG} {res : Int32 × Sg} (M : MX RX4 cX4_divides 2 (some .boolean) p s m args meth c) (K : KK Γ s s.heap) (a0 : Int32) (a1 : Int32) (s0 : Int32) (σ : Sg) (H : Heap) (locs : List Loc) (ls : Array Slot)  (hB : Bd Γ σ s H locs) (hl : lv_has ls 2 []) (hr : f_X4_divides_15 a0 a1  s0 σ = some res) : WI Γ rm_X4_divides p l e s m args below meth c H locs res (F0 m 15 ls [.int s0]) := by
  unfold f_X4_divides_15 at hr
  obtain ⟨g_4, hr⟩ := gd2 hr
  exact x_zret M hB (nar_z g_4) (Option.some.inj hr) dX4_divides_15
def f_X4_divides_14 (a0 : Int32) (a1 : Int32)   (σ : Sg) : Option (Int32 × Sg) :=
f_X4_divides_15 a0 a1  0 σ
set_option maxHeartbeats 4000000 in
set_option maxRecDepth 100000 in
theorem w_X4_divides_14 {p : Program} {l : Launch} {e : Env} {s : State} {m : MethodId} {args : Array Value} {below : List Frame} {meth : Method} {c : Code} {Γ : GG} {res : Int32 × Sg} (M : MX RX4 cX4_divides 2 (some .boolean) p s m args meth c) (K : KK Γ s s.heap) (a0 : Int32) (a1 : Int32)  (σ : Sg) (H : Heap) (locs : List Loc) (ls : Array Slot)  (hB : Bd Γ σ s H locs) (hl : lv_has ls 2 []) (hr : f_X4_divides_14 a0 a1   σ = some res) : WI Γ rm_X4_divides p l e s m args below meth c H locs res (F0 m 14 ls []) := by
  unfold f_X4_divides_14 at hr
  refine lv_iconst (v := 0) M.1 M.2.1 dX4_divides_14 (by decide) ?_
  exact w_X4_divides_15 M K a0 a1  0 _ _ _ _  hB (lv_sub hl [] rfl) hr
def f_X4_divides_0 (a0 : Int32) (a1 : Int32)   (σ : Sg) : Option (Int32 × Sg) :=
if a0 ≤ 0 then
f_X4_divides_14 a0 a1   σ
else
if a0 = 0 then none else
if a1 - a1 / a0 * a0 = 0 then
f_X4_divides_15 a0 a1  1 σ
else
f_X4_divides_14 a0 a1   σ
set_option maxHeartbeats 4000000 in
set_option maxRecDepth 100000 in
theorem w_X4_divides_0 {p : Program} {l : Launch} {e : Env} {s : State} {m : MethodId} {args : Array Value} {below : List Frame} {meth : Method} {c : Code} {Γ : GG} {res : Int32 × Sg} (M : MX RX4 cX4_divides 2 (some .boolean) p s m args meth c) (K : KK Γ s s.heap) (a0 : Int32) (a1 : Int32)  (σ : Sg) (H : Heap) (locs : List Loc) (ls : Array Slot)  (hB : Bd Γ σ s H locs) (hl : lv_has ls 2 [(0, .int a0), (1, .int a1)]) (hr : f_X4_divides_0 a0 a1   σ = some res) : WI Γ rm_X4_divides p l e s m args below meth c H locs res (F0 m 0 ls []) := by
  unfold f_X4_divides_0 at hr
  refine lv_iload_n M.1 M.2.1 dX4_divides_0 rfl (lv_at hl 0 rfl) ?_
  refine lv_if_le (tgt := 14) M.1 M.2.1 dX4_divides_1 (by decide) (fun c_1 => ?_) (fun c_1 => ?_)
  · rw [if_pos c_1] at hr
    exact w_X4_divides_14 M K a0 a1   _ _ _ _  hB (lv_sub hl [] rfl) hr
  · rw [if_neg c_1] at hr
    refine lv_iload_n M.1 M.2.1 dX4_divides_4 rfl (lv_at hl 1 rfl) ?_
    refine lv_iload_n M.1 M.2.1 dX4_divides_5 rfl (lv_at hl 0 rfl) ?_
    obtain ⟨g_2, hr⟩ := gd hr
    refine lv_irem M.1 M.2.1 dX4_divides_6 g_2 ?_
    refine lv_if_ne (tgt := 14) M.1 M.2.1 dX4_divides_7 (by decide) (fun c_3 => ?_) (fun c_3 => ?_)
    · rw [if_neg c_3] at hr
      exact w_X4_divides_14 M K a0 a1   _ _ _ _  hB (lv_sub hl [] rfl) hr
    · rw [if_pos c_3] at hr
      refine lv_iconst (v := 1) M.1 M.2.1 dX4_divides_10 (by decide) ?_
      refine lv_goto (tgt := 15) M.1 M.2.1 dX4_divides_11 (by decide) ?_
      exact w_X4_divides_15 M K a0 a1  1 _ _ _ _  hB (lv_sub hl [] rfl) hr
theorem c_X4_divides (l : Launch) (Γ : GG) (a0 : Int32) (a1 : Int32)  (σ : Sg) (res : Int32 × Sg) (hr : f_X4_divides_0 a0 a1 σ = some res) : Met l yX4_divides (Cond.code yX4_divides cX4_divides 2 (some .boolean) :: gtb) rm_X4_divides (va_Pc [.int a0, .int a1] (GI Γ σ)) (QI Γ res) 0 0 (AD Γ) :=
  x_metI (by decide) [.int a0, .int a1] (Nat.le_of_ble_eq_true rfl) (fun p e s m args below meth c M K ls hl hB => w_X4_divides_0 M K a0 a1 σ _ _ ls hB hl hr)
abbrev rm_X1_add : Room := { frames := 0, cells := 0, slots := 0, locals := 0 }
def f_X1_add_0 (q : Nat) (a0 : Int32) (a1 : Int32) (a2 : Int32) (a3 : Int32) (a4 : Int32)   (σ : Sg) : Option (Int32 × Sg) :=
if ((σ q 1) - (σ q 1) / 16 * 16) * 5 < 0 ∨ 80 ≤ (((σ q 1) - (σ q 1) / 16 * 16) * 5).toNatClampNeg then none else
wb (st σ (q + 1) ((((σ q 1) - (σ q 1) / 16 * 16) * 5).toNatClampNeg) a0) fun σ_2 =>
if (((σ q 1) - (σ q 1) / 16 * 16) * 5) + 1 < 0 ∨ 80 ≤ ((((σ q 1) - (σ q 1) / 16 * 16) * 5) + 1).toNatClampNeg then none else
wb (st σ_2 (q + 1) (((((σ q 1) - (σ q 1) / 16 * 16) * 5) + 1).toNatClampNeg) a1) fun σ_5 =>
if (((σ q 1) - (σ q 1) / 16 * 16) * 5) + 2 < 0 ∨ 80 ≤ ((((σ q 1) - (σ q 1) / 16 * 16) * 5) + 2).toNatClampNeg then none else
wb (st σ_5 (q + 1) (((((σ q 1) - (σ q 1) / 16 * 16) * 5) + 2).toNatClampNeg) a2) fun σ_8 =>
if (((σ q 1) - (σ q 1) / 16 * 16) * 5) + 3 < 0 ∨ 80 ≤ ((((σ q 1) - (σ q 1) / 16 * 16) * 5) + 3).toNatClampNeg then none else
wb (st σ_8 (q + 1) (((((σ q 1) - (σ q 1) / 16 * 16) * 5) + 3).toNatClampNeg) a3) fun σ_11 =>
if (((σ q 1) - (σ q 1) / 16 * 16) * 5) + 4 < 0 ∨ 80 ≤ ((((σ q 1) - (σ q 1) / 16 * 16) * 5) + 4).toNatClampNeg then none else
wb (st σ_11 (q + 1) (((((σ q 1) - (σ q 1) / 16 * 16) * 5) + 4).toNatClampNeg) a4) fun σ_14 =>
wb (st σ_14 q 1 ((σ_14 q 1) + 1)) fun σ_16 =>
some (0, σ_16)
set_option maxHeartbeats 4000000 in
set_option maxRecDepth 100000 in
theorem w_X1_add_0 {p : Program} {l : Launch} {e : Env} {s : State} {m : MethodId} {args : Array Value} {below : List Frame} {meth : Method} {c : Code} {Γ : GG} {res : Int32 × Sg} (M : MX RX1 cX1_add 7 none p s m args meth c) (K : KK Γ s s.heap) {q : Nat} (hq : isBk q) (a0 : Int32) (a1 : Int32) (a2 : Int32) (a3 : Int32) (a4 : Int32)  (σ : Sg) (H : Heap) (locs : List Loc) (ls : Array Slot)  (hB : Bd Γ σ s H locs) (hl : lv_has ls 7 [(0, .ref (Γ.1 q)), (1, .int a0), (2, .int a1), (3, .int a2), (4, .int a3), (5, .int a4)]) (hr : f_X1_add_0 q a0 a1 a2 a3 a4   σ = some res) : WV Γ rm_X1_add p l e s m args below meth c H locs res (F0 m 0 ls []) := by
  unfold f_X1_add_0 at hr
  refine lv_aload_n M.1 M.2.1 dX1_add_0 rfl (lv_at hl 0 rfl) ?_
  refine x_get1 M K hB (hq.k) 1 (by decide) wd_0 (v := .int (σ q 1)) rfl dX1_add_1 ?_
  refine lv_bipush (v := 16) M.1 M.2.1 dX1_add_4 (by decide) ?_
  refine lv_irem M.1 M.2.1 dX1_add_6 (by decide) ?_
  refine lv_iconst (v := 5) M.1 M.2.1 dX1_add_7 (by decide) ?_
  refine lv_imul M.1 M.2.1 dX1_add_8 ?_
  refine lv_istore (lv' := [(6, .int (((σ q 1) - (σ q 1) / 16 * 16) * 5)), (0, .ref (Γ.1 q)), (1, .int a0), (2, .int a1), (3, .int a2), (4, .int a3), (5, .int a4)]) M.1 M.2.1 dX1_add_9 hl (by decide) rfl (fun ls hl => ?_)
  refine lv_aload_n M.1 M.2.1 dX1_add_11 rfl (lv_at hl 1 rfl) ?_
  refine x_get1 M K hB (hq.k) 0 (by decide) wd_1 (v := .ref (Γ.1 (q + 1))) rfl dX1_add_12 ?_
  refine lv_iload M.1 M.2.1 dX1_add_15 (lv_at hl 0 rfl) ?_
  refine lv_iload_n M.1 M.2.1 dX1_add_17 rfl (lv_at hl 2 rfl) ?_
  obtain ⟨g_1, hr⟩ := gd hr
  obtain ⟨σ_2, e_3, hr⟩ := wbd hr
  refine x_iast M K hB (hq.a) g_1 dX1_add_18 (fun H locs hB => ?_)
  rw [← e_3] at hB
  refine lv_aload_n M.1 M.2.1 dX1_add_19 rfl (lv_at hl 1 rfl) ?_
  refine x_get1 M K hB (hq.k) 0 (by decide) wd_1 (v := .ref (Γ.1 (q + 1))) rfl dX1_add_20 ?_
  refine lv_iload M.1 M.2.1 dX1_add_23 (lv_at hl 0 rfl) ?_
  refine lv_iconst (v := 1) M.1 M.2.1 dX1_add_25 (by decide) ?_
  refine lv_iadd M.1 M.2.1 dX1_add_26 ?_
  refine lv_iload_n M.1 M.2.1 dX1_add_27 rfl (lv_at hl 3 rfl) ?_
  obtain ⟨g_4, hr⟩ := gd hr
  obtain ⟨σ_5, e_6, hr⟩ := wbd hr
  refine x_iast M K hB (hq.a) g_4 dX1_add_28 (fun H locs hB => ?_)
  rw [← e_6] at hB
  refine lv_aload_n M.1 M.2.1 dX1_add_29 rfl (lv_at hl 1 rfl) ?_
  refine x_get1 M K hB (hq.k) 0 (by decide) wd_1 (v := .ref (Γ.1 (q + 1))) rfl dX1_add_30 ?_
  refine lv_iload M.1 M.2.1 dX1_add_33 (lv_at hl 0 rfl) ?_
  refine lv_iconst (v := 2) M.1 M.2.1 dX1_add_35 (by decide) ?_
  refine lv_iadd M.1 M.2.1 dX1_add_36 ?_
  refine lv_iload_n M.1 M.2.1 dX1_add_37 rfl (lv_at hl 4 rfl) ?_
  obtain ⟨g_7, hr⟩ := gd hr
  obtain ⟨σ_8, e_9, hr⟩ := wbd hr
  refine x_iast M K hB (hq.a) g_7 dX1_add_38 (fun H locs hB => ?_)
  rw [← e_9] at hB
  refine lv_aload_n M.1 M.2.1 dX1_add_39 rfl (lv_at hl 1 rfl) ?_
  refine x_get1 M K hB (hq.k) 0 (by decide) wd_1 (v := .ref (Γ.1 (q + 1))) rfl dX1_add_40 ?_
  refine lv_iload M.1 M.2.1 dX1_add_43 (lv_at hl 0 rfl) ?_
  refine lv_iconst (v := 3) M.1 M.2.1 dX1_add_45 (by decide) ?_
  refine lv_iadd M.1 M.2.1 dX1_add_46 ?_
  refine lv_iload M.1 M.2.1 dX1_add_47 (lv_at hl 5 rfl) ?_
  obtain ⟨g_10, hr⟩ := gd hr
  obtain ⟨σ_11, e_12, hr⟩ := wbd hr
  refine x_iast M K hB (hq.a) g_10 dX1_add_49 (fun H locs hB => ?_)
  rw [← e_12] at hB
  refine lv_aload_n M.1 M.2.1 dX1_add_50 rfl (lv_at hl 1 rfl) ?_
  refine x_get1 M K hB (hq.k) 0 (by decide) wd_1 (v := .ref (Γ.1 (q + 1))) rfl dX1_add_51 ?_
  refine lv_iload M.1 M.2.1 dX1_add_54 (lv_at hl 0 rfl) ?_
  refine lv_iconst (v := 4) M.1 M.2.1 dX1_add_56 (by decide) ?_
  refine lv_iadd M.1 M.2.1 dX1_add_57 ?_
  refine lv_iload M.1 M.2.1 dX1_add_58 (lv_at hl 6 rfl) ?_
  obtain ⟨g_13, hr⟩ := gd hr
  obtain ⟨σ_14, e_15, hr⟩ := wbd hr
  refine x_iast M K hB (hq.a) g_13 dX1_add_60 (fun H locs hB => ?_)
  rw [← e_15] at hB
  refine lv_aload_n M.1 M.2.1 dX1_add_61 rfl (lv_at hl 1 rfl) ?_
  refine lv_dup M.1 M.2.1 dX1_add_62 rfl ?_
  refine x_get1 M K hB (hq.k) 1 (by decide) wd_0 (v := .int (σ_14 q 1)) rfl dX1_add_63 ?_
  refine lv_iconst (v := 1) M.1 M.2.1 dX1_add_66 (by decide) ?_
  refine lv_iadd M.1 M.2.1 dX1_add_67 ?_
  obtain ⟨σ_16, e_17, hr⟩ := wbd hr
  refine x_put1 M K hB (hq.k) 1 (by decide) wd_0 dX1_add_68 (fun H locs hB => ?_)
  rw [← e_17] at hB
  exact x_vret M hB (Option.some.inj hr) dX1_add_71
theorem c_X1_add (l : Launch) (Γ : GG) (q : Nat) (a0 : Int32) (a1 : Int32) (a2 : Int32) (a3 : Int32) (a4 : Int32) (hq : isBk q) (σ : Sg) (res : Int32 × Sg) (hr : f_X1_add_0 q a0 a1 a2 a3 a4 σ = some res) : Met l yX1_add (Cond.code yX1_add cX1_add 7 none :: gtb) rm_X1_add (va_Pc [.ref (Γ.1 q), .int a0, .int a1, .int a2, .int a3, .int a4] (GI Γ σ)) (QV Γ res) 0 0 (AD Γ) :=
  x_metV (by decide) [.ref (Γ.1 q), .int a0, .int a1, .int a2, .int a3, .int a4] (Nat.le_of_ble_eq_true rfl) (fun p e s m args below meth c M K ls hl hB => w_X1_add_0 M K hq a0 a1 a2 a3 a4 σ _ _ ls hB hl hr)
abbrev rm_X1_become : Room := { frames := 1, cells := 0, slots := 0, locals := 26 }
def f_X1_become_0 (q : Nat) (o0 : Nat)   (σ : Sg) : Option (Int32 × Sg) :=
wb (sr σ (q + 1) (va_cpy (σ (o0 + 1)) (σ (q + 1)) 0 0 80)) fun σ_1 =>
wb (st σ_1 q 1 (σ_1 o0 1)) fun σ_3 =>
some (0, σ_3)
set_option maxHeartbeats 4000000 in
set_option maxRecDepth 100000 in
theorem w_X1_become_0 {p : Program} {l : Launch} {e : Env} {s : State} {m : MethodId} {args : Array Value} {below : List Frame} {meth : Method} {c : Code} {Γ : GG} {res : Int32 × Sg} (M : MX RX1 cX1_become 2 none p s m args meth c) (K : KK Γ s s.heap) {q : Nat} (hq : isBk q) {o0 : Nat} (ho0 : isBk o0)  (σ : Sg) (H : Heap) (locs : List Loc) (ls : Array Slot)  (hB : Bd Γ σ s H locs) (hl : lv_has ls 2 [(0, .ref (Γ.1 q)), (1, .ref (Γ.1 o0))]) (hr : f_X1_become_0 q o0   σ = some res) : WV Γ rm_X1_become p l e s m args below meth c H locs res (F0 m 0 ls []) := by
  unfold f_X1_become_0 at hr
  refine lv_aload_n M.1 M.2.1 dX1_become_0 rfl (lv_at hl 1 rfl) ?_
  refine x_get1 M K hB (ho0.k) 0 (by decide) wd_1 (v := .ref (Γ.1 (o0 + 1))) rfl dX1_become_1 ?_
  refine lv_iconst (v := 0) M.1 M.2.1 dX1_become_4 (by decide) ?_
  refine lv_aload_n M.1 M.2.1 dX1_become_5 rfl (lv_at hl 0 rfl) ?_
  refine x_get1 M K hB (hq.k) 0 (by decide) wd_1 (v := .ref (Γ.1 (q + 1))) rfl dX1_become_6 ?_
  refine lv_iconst (v := 0) M.1 M.2.1 dX1_become_9 (by decide) ?_
  refine lv_bipush (v := 80) M.1 M.2.1 dX1_become_10 (by decide) ?_
  obtain ⟨σ_1, e_2, hr⟩ := wbd hr
  refine x_copy M K hB hl.1 (ho0.a) (hq.a) wd_2 wd_3 wd_4 wd_5 (by decide) (by decide) (by decide) (by decide) (by decide) (Nat.le_of_ble_eq_true rfl) (Nat.le_of_ble_eq_true rfl) dX1_become_12 (fun H locs hB => ?_)
  replace hB : Bd Γ (sr σ (q + 1) (va_cpy (σ (o0 + 1)) (σ (q + 1)) 0 0 80)) s H locs := hB
  rw [← e_2] at hB
  refine lv_aload_n M.1 M.2.1 dX1_become_15 rfl (lv_at hl 0 rfl) ?_
  refine lv_aload_n M.1 M.2.1 dX1_become_16 rfl (lv_at hl 1 rfl) ?_
  refine x_get1 M K hB (ho0.k) 1 (by decide) wd_0 (v := .int (σ_1 o0 1)) rfl dX1_become_17 ?_
  obtain ⟨σ_3, e_4, hr⟩ := wbd hr
  refine x_put1 M K hB (hq.k) 1 (by decide) wd_0 dX1_become_20 (fun H locs hB => ?_)
  rw [← e_4] at hB
  exact x_vret M hB (Option.some.inj hr) dX1_become_23
theorem c_X1_become (l : Launch) (Γ : GG) (q : Nat) (o0 : Nat) (hq : isBk q) (ho0 : isBk o0) (σ : Sg) (res : Int32 × Sg) (hr : f_X1_become_0 q o0 σ = some res) : Met l yX1_become (Cond.code yX1_become cX1_become 2 none :: gtb) rm_X1_become (va_Pc [.ref (Γ.1 q), .ref (Γ.1 o0)] (GI Γ σ)) (QV Γ res) 0 0 (AD Γ) :=
  x_metV (by decide) [.ref (Γ.1 q), .ref (Γ.1 o0)] (Nat.le_of_ble_eq_true rfl) (fun p e s m args below meth c M K ls hl hB => w_X1_become_0 M K hq ho0 σ _ _ ls hB hl hr)
abbrev rm_X1_property : Room := { frames := 1, cells := 0, slots := 0, locals := 22 }
def f_X1_property_32 (q : Nat) (a0 : Int32) (a1 : Int32)   (σ : Sg) : Option (Int32 × Sg) :=
some ((-6), σ)
set_option maxHeartbeats 4000000 in
set_option maxRecDepth 100000 in
theorem w_X1_property_32 {p : Program} {l : Launch} {e : Env} {s : State} {m : MethodId} {args : Array Value} {below : List Frame} {meth : Method} {c : Code} {Γ : GG} {res : Int32 × Sg} (M : MX RX1 cX1_property 3 (some .int) p s m args meth c) (K : KK Γ s s.heap) {q : Nat} (hq : isBk q) (a0 : Int32) (a1 : Int32)  (σ : Sg) (H : Heap) (locs : List Loc) (ls : Array Slot)  (hB : Bd Γ σ s H locs) (hl : lv_has ls 3 []) (hr : f_X1_property_32 q a0 a1   σ = some res) : WI Γ rm_X1_property p l e s m args below meth c H locs res (F0 m 32 ls []) := by
  unfold f_X1_property_32 at hr
  refine lv_bipush (v := (-6)) M.1 M.2.1 dX1_property_32 (by decide) ?_
  exact x_iret M hB (Option.some.inj hr) dX1_property_34
def f_X1_property_0 (q : Nat) (a0 : Int32) (a1 : Int32)   (σ : Sg) : Option (Int32 × Sg) :=
if a0 < 0 then
f_X1_property_32 q a0 a1   σ
else
if σ q 1 ≤ a0 then
f_X1_property_32 q a0 a1   σ
else
if a0 < (σ q 1) - 16 then
f_X1_property_32 q a0 a1   σ
else
cb (f_X4_isWithin_0 a1 0 4 σ) fun v_4 σ_5 =>
if v_4 = 0 then
f_X1_property_32 q a0 a1   σ_5
else
if ((a0 - a0 / 16 * 16) * 5) + a1 < 0 ∨ 80 ≤ (((a0 - a0 / 16 * 16) * 5) + a1).toNatClampNeg then none else
some (σ_5 (q + 1) ((((a0 - a0 / 16 * 16) * 5) + a1).toNatClampNeg), σ_5)
set_option maxHeartbeats 4000000 in
set_option maxRecDepth 100000 in
theorem w_X1_property_0 {p : Program} {l : Launch} {e : Env} {s : State} {m : MethodId} {args : Array Value} {below : List Frame} {meth : Method} {c : Code} {Γ : GG} {res : Int32 × Sg} (M : MX RX1 cX1_property 3 (some .int) p s m args meth c) (K : KK Γ s s.heap) {q : Nat} (hq : isBk q) (a0 : Int32) (a1 : Int32)  (σ : Sg) (H : Heap) (locs : List Loc) (ls : Array Slot)  (hB : Bd Γ σ s H locs) (hl : lv_has ls 3 [(0, .ref (Γ.1 q)), (1, .int a0), (2, .int a1)]) (hr : f_X1_property_0 q a0 a1   σ = some res) : WI Γ rm_X1_property p l e s m args below meth c H locs res (F0 m 0 ls []) := by
  unfold f_X1_property_0 at hr
  refine lv_iload_n M.1 M.2.1 dX1_property_0 rfl (lv_at hl 1 rfl) ?_
  refine lv_if_lt (tgt := 32) M.1 M.2.1 dX1_property_1 (by decide) (fun c_1 => ?_) (fun c_1 => ?_)
  · rw [if_pos c_1] at hr
    exact w_X1_property_32 M K hq a0 a1   _ _ _ _  hB (lv_sub hl [] rfl) hr
  · rw [if_neg c_1] at hr
    refine lv_iload_n M.1 M.2.1 dX1_property_4 rfl (lv_at hl 1 rfl) ?_
    refine lv_aload_n M.1 M.2.1 dX1_property_5 rfl (lv_at hl 0 rfl) ?_
    refine x_get1 M K hB (hq.k) 1 (by decide) wd_0 (v := .int (σ q 1)) rfl dX1_property_6 ?_
    refine lv_icmp_ge (tgt := 32) M.1 M.2.1 dX1_property_9 (by decide) (fun c_2 => ?_) (fun c_2 => ?_)
    · rw [if_pos c_2] at hr
      exact w_X1_property_32 M K hq a0 a1   _ _ _ _  hB (lv_sub hl [] rfl) hr
    · rw [if_neg c_2] at hr
      refine lv_iload_n M.1 M.2.1 dX1_property_12 rfl (lv_at hl 1 rfl) ?_
      refine lv_aload_n M.1 M.2.1 dX1_property_13 rfl (lv_at hl 0 rfl) ?_
      refine x_get1 M K hB (hq.k) 1 (by decide) wd_0 (v := .int (σ q 1)) rfl dX1_property_14 ?_
      refine lv_bipush (v := 16) M.1 M.2.1 dX1_property_17 (by decide) ?_
      refine lv_isub M.1 M.2.1 dX1_property_19 ?_
      refine lv_icmp_lt (tgt := 32) M.1 M.2.1 dX1_property_20 (by decide) (fun c_3 => ?_) (fun c_3 => ?_)
      · rw [if_pos c_3] at hr
        exact w_X1_property_32 M K hq a0 a1   _ _ _ _  hB (lv_sub hl [] rfl) hr
      · rw [if_neg c_3] at hr
        refine lv_iload_n M.1 M.2.1 dX1_property_23 rfl (lv_at hl 2 rfl) ?_
        refine lv_iconst (v := 0) M.1 M.2.1 dX1_property_24 (by decide) ?_
        refine lv_iconst (v := 4) M.1 M.2.1 dX1_property_25 (by decide) ?_
        obtain ⟨v_4, σ_5, h_6, hr⟩ := cbd hr
        refine x_callI (x_runSN M K hB hl.1 [.int a1, .int 0, .int 4] (rest := []) rfl (c_X4_isWithin l Γ a1 0 4  σ (v_4, σ_5) h_6) cy_X4_isWithin nw_0 ⟨rfl, rfl, Nat.le_of_ble_eq_true rfl, Nat.le_of_ble_eq_true rfl⟩ (Nat.le_of_ble_eq_true rfl) ⟨Nat.zero_le _, Nat.zero_le _⟩ dX1_property_26) hB (fun H locs hB => ?_)
        replace hB : Bd Γ σ_5 s H locs := hB
        refine lv_if_ne (tgt := 35) M.1 M.2.1 dX1_property_29 (by decide) (fun c_7 => ?_) (fun c_7 => ?_)
        · rw [if_neg c_7] at hr
          refine lv_aload_n M.1 M.2.1 dX1_property_35 rfl (lv_at hl 0 rfl) ?_
          refine x_get1 M K hB (hq.k) 0 (by decide) wd_1 (v := .ref (Γ.1 (q + 1))) rfl dX1_property_36 ?_
          refine lv_iload_n M.1 M.2.1 dX1_property_39 rfl (lv_at hl 1 rfl) ?_
          refine lv_bipush (v := 16) M.1 M.2.1 dX1_property_40 (by decide) ?_
          refine lv_irem M.1 M.2.1 dX1_property_42 (by decide) ?_
          refine lv_iconst (v := 5) M.1 M.2.1 dX1_property_43 (by decide) ?_
          refine lv_imul M.1 M.2.1 dX1_property_44 ?_
          refine lv_iload_n M.1 M.2.1 dX1_property_45 rfl (lv_at hl 2 rfl) ?_
          refine lv_iadd M.1 M.2.1 dX1_property_46 ?_
          obtain ⟨g_8, hr⟩ := gd hr
          refine x_iald M K hB (hq.a) g_8 dX1_property_47 ?_
          exact x_iret M hB (Option.some.inj hr) dX1_property_48
        · rw [if_pos c_7] at hr
          exact w_X1_property_32 M K hq a0 a1   _ _ _ _  hB (lv_sub hl [] rfl) hr
theorem c_X1_property (l : Launch) (Γ : GG) (q : Nat) (a0 : Int32) (a1 : Int32) (hq : isBk q) (σ : Sg) (res : Int32 × Sg) (hr : f_X1_property_0 q a0 a1 σ = some res) : Met l yX1_property (Cond.code yX1_property cX1_property 3 (some .int) :: gtb) rm_X1_property (va_Pc [.ref (Γ.1 q), .int a0, .int a1] (GI Γ σ)) (QI Γ res) 0 0 (AD Γ) :=
  x_metI (by decide) [.ref (Γ.1 q), .int a0, .int a1] (Nat.le_of_ble_eq_true rfl) (fun p e s m args below meth c M K ls hl hB => w_X1_property_0 M K hq a0 a1 σ _ _ ls hB hl hr)
abbrev rm_X3_takeFault : Room := { frames := 0, cells := 0, slots := 0, locals := 0 }
def f_X3_takeFault_9 (q : Nat) (a0 : Int32) (a1 : Int32) (a2 : Int32) (a3 : Int32)   (σ : Sg) : Option (Int32 × Sg) :=
some (0, σ)
set_option maxHeartbeats 4000000 in
set_option maxRecDepth 100000 in
theorem w_X3_takeFault_9 {p : Program} {l : Launch} {e : Env} {s : State} {m : MethodId} {args : Array Value} {below : List Frame} {meth : Method} {c : Code} {Γ : GG} {res : Int32 × Sg} (M : MX RX3 cX3_takeFault 5 none p s m args meth c) (K : KK Γ s s.heap) {q : Nat} (hq : isT q) (a0 : Int32) (a1 : Int32) (a2 : Int32) (a3 : Int32)  (σ : Sg) (H : Heap) (locs : List Loc) (ls : Array Slot)  (hB : Bd Γ σ s H locs) (hl : lv_has ls 5 []) (hr : f_X3_takeFault_9 q a0 a1 a2 a3   σ = some res) : WV Γ rm_X3_takeFault p l e s m args below meth c H locs res (F0 m 9 ls []) := by
  unfold f_X3_takeFault_9 at hr
  exact x_vret M hB (Option.some.inj hr) dX3_takeFault_9
def f_X3_takeFault_0 (q : Nat) (a0 : Int32) (a1 : Int32) (a2 : Int32) (a3 : Int32)   (σ : Sg) : Option (Int32 × Sg) :=
if a0 < 0 then
f_X3_takeFault_9 q a0 a1 a2 a3   σ
else
if a0 < 2 then
if a0 < 0 ∨ 2 ≤ a0.toNatClampNeg then none else
wb (st σ (q + 2) (a0.toNatClampNeg) a1) fun σ_4 =>
if a0 < 0 ∨ 2 ≤ a0.toNatClampNeg then none else
wb (st σ_4 (q + 3) (a0.toNatClampNeg) a2) fun σ_7 =>
if a0 < 0 ∨ 2 ≤ a0.toNatClampNeg then none else
wb (st σ_7 (q + 4) (a0.toNatClampNeg) a3) fun σ_10 =>
some (0, σ_10)
else
f_X3_takeFault_9 q a0 a1 a2 a3   σ
set_option maxHeartbeats 4000000 in
set_option maxRecDepth 100000 in
theorem w_X3_takeFault_0 {p : Program} {l : Launch} {e : Env} {s : State} {m : MethodId} {args : Array Value} {below : List Frame} {meth : Method} {c : Code} {Γ : GG} {res : Int32 × Sg} (M : MX RX3 cX3_takeFault 5 none p s m args meth c) (K : KK Γ s s.heap) {q : Nat} (hq : isT q) (a0 : Int32) (a1 : Int32) (a2 : Int32) (a3 : Int32)  (σ : Sg) (H : Heap) (locs : List Loc) (ls : Array Slot)  (hB : Bd Γ σ s H locs) (hl : lv_has ls 5 [(0, .ref (Γ.1 q)), (1, .int a0), (2, .int a1), (3, .int a2), (4, .int a3)]) (hr : f_X3_takeFault_0 q a0 a1 a2 a3   σ = some res) : WV Γ rm_X3_takeFault p l e s m args below meth c H locs res (F0 m 0 ls []) := by
  unfold f_X3_takeFault_0 at hr
  refine lv_iload_n M.1 M.2.1 dX3_takeFault_0 rfl (lv_at hl 1 rfl) ?_
  refine lv_if_lt (tgt := 9) M.1 M.2.1 dX3_takeFault_1 (by decide) (fun c_1 => ?_) (fun c_1 => ?_)
  · rw [if_pos c_1] at hr
    exact w_X3_takeFault_9 M K hq a0 a1 a2 a3   _ _ _ _  hB (lv_sub hl [] rfl) hr
  · rw [if_neg c_1] at hr
    refine lv_iload_n M.1 M.2.1 dX3_takeFault_4 rfl (lv_at hl 1 rfl) ?_
    refine lv_iconst (v := 2) M.1 M.2.1 dX3_takeFault_5 (by decide) ?_
    refine lv_icmp_lt (tgt := 10) M.1 M.2.1 dX3_takeFault_6 (by decide) (fun c_2 => ?_) (fun c_2 => ?_)
    · rw [if_pos c_2] at hr
      refine lv_aload_n M.1 M.2.1 dX3_takeFault_10 rfl (lv_at hl 0 rfl) ?_
      refine x_get3 M K hB (hq.k) 1 (by decide) wd_6 (v := .ref (Γ.1 (q + 2))) rfl dX3_takeFault_11 ?_
      refine lv_iload_n M.1 M.2.1 dX3_takeFault_14 rfl (lv_at hl 1 rfl) ?_
      refine lv_iload_n M.1 M.2.1 dX3_takeFault_15 rfl (lv_at hl 2 rfl) ?_
      obtain ⟨g_3, hr⟩ := gd hr
      obtain ⟨σ_4, e_5, hr⟩ := wbd hr
      refine x_iast M K hB (hq.a2) g_3 dX3_takeFault_16 (fun H locs hB => ?_)
      rw [← e_5] at hB
      refine lv_aload_n M.1 M.2.1 dX3_takeFault_17 rfl (lv_at hl 0 rfl) ?_
      refine x_get3 M K hB (hq.k) 2 (by decide) wd_7 (v := .ref (Γ.1 (q + 3))) rfl dX3_takeFault_18 ?_
      refine lv_iload_n M.1 M.2.1 dX3_takeFault_21 rfl (lv_at hl 1 rfl) ?_
      refine lv_iload_n M.1 M.2.1 dX3_takeFault_22 rfl (lv_at hl 3 rfl) ?_
      obtain ⟨g_6, hr⟩ := gd hr
      obtain ⟨σ_7, e_8, hr⟩ := wbd hr
      refine x_iast M K hB (hq.a3) g_6 dX3_takeFault_23 (fun H locs hB => ?_)
      rw [← e_8] at hB
      refine lv_aload_n M.1 M.2.1 dX3_takeFault_24 rfl (lv_at hl 0 rfl) ?_
      refine x_get3 M K hB (hq.k) 3 (by decide) wd_8 (v := .ref (Γ.1 (q + 4))) rfl dX3_takeFault_25 ?_
      refine lv_iload_n M.1 M.2.1 dX3_takeFault_28 rfl (lv_at hl 1 rfl) ?_
      refine lv_iload M.1 M.2.1 dX3_takeFault_29 (lv_at hl 4 rfl) ?_
      obtain ⟨g_9, hr⟩ := gd hr
      obtain ⟨σ_10, e_11, hr⟩ := wbd hr
      refine x_iast M K hB (hq.a4) g_9 dX3_takeFault_31 (fun H locs hB => ?_)
      rw [← e_11] at hB
      exact x_vret M hB (Option.some.inj hr) dX3_takeFault_32
    · rw [if_neg c_2] at hr
      exact w_X3_takeFault_9 M K hq a0 a1 a2 a3   _ _ _ _  hB (lv_sub hl [] rfl) hr
theorem c_X3_takeFault (l : Launch) (Γ : GG) (q : Nat) (a0 : Int32) (a1 : Int32) (a2 : Int32) (a3 : Int32) (hq : isT q) (σ : Sg) (res : Int32 × Sg) (hr : f_X3_takeFault_0 q a0 a1 a2 a3 σ = some res) : Met l yX3_takeFault (Cond.code yX3_takeFault cX3_takeFault 5 none :: gtb) rm_X3_takeFault (va_Pc [.ref (Γ.1 q), .int a0, .int a1, .int a2, .int a3] (GI Γ σ)) (QV Γ res) 0 0 (AD Γ) :=
  x_metV (by decide) [.ref (Γ.1 q), .int a0, .int a1, .int a2, .int a3] (Nat.le_of_ble_eq_true rfl) (fun p e s m args below meth c M K ls hl hB => w_X3_takeFault_0 M K hq a0 a1 a2 a3 σ _ _ ls hB hl hr)
abbrev rm_X3_beginRun : Room := { frames := 0, cells := 0, slots := 0, locals := 0 }
def f_X3_beginRun_0 (q : Nat)   (σ : Sg) : Option (Int32 × Sg) :=
wb (st σ q 4 0) fun σ_1 =>
wb (st σ_1 q 8 0) fun σ_3 =>
wb (st σ_3 q 9 0) fun σ_5 =>
wb (st σ_5 q 10 0) fun σ_7 =>
wb (st σ_7 q 11 0) fun σ_9 =>
some (0, σ_9)
set_option maxHeartbeats 4000000 in
set_option maxRecDepth 100000 in
theorem w_X3_beginRun_0 {p : Program} {l : Launch} {e : Env} {s : State} {m : MethodId} {args : Array Value} {below : List Frame} {meth : Method} {c : Code} {Γ : GG} {res : Int32 × Sg} (M : MX RX3 cX3_beginRun 1 none p s m args meth c) (K : KK Γ s s.heap) {q : Nat} (hq : isT q)  (σ : Sg) (H : Heap) (locs : List Loc) (ls : Array Slot)  (hB : Bd Γ σ s H locs) (hl : lv_has ls 1 [(0, .ref (Γ.1 q))]) (hr : f_X3_beginRun_0 q   σ = some res) : WV Γ rm_X3_beginRun p l e s m args below meth c H locs res (F0 m 0 ls []) := by
  unfold f_X3_beginRun_0 at hr
  refine lv_aload_n M.1 M.2.1 dX3_beginRun_0 rfl (lv_at hl 0 rfl) ?_
  refine lv_iconst (v := 0) M.1 M.2.1 dX3_beginRun_1 (by decide) ?_
  obtain ⟨σ_1, e_2, hr⟩ := wbd hr
  refine x_putz3 M K hB (hq.k) 4 (by decide) wd_9 (by decide) dX3_beginRun_2 (fun H locs hB => ?_)
  rw [← e_2] at hB
  refine lv_aload_n M.1 M.2.1 dX3_beginRun_5 rfl (lv_at hl 0 rfl) ?_
  refine lv_iconst (v := 0) M.1 M.2.1 dX3_beginRun_6 (by decide) ?_
  obtain ⟨σ_3, e_4, hr⟩ := wbd hr
  refine x_put3 M K hB (hq.k) 8 (by decide) wd_10 dX3_beginRun_7 (fun H locs hB => ?_)
  rw [← e_4] at hB
  refine lv_aload_n M.1 M.2.1 dX3_beginRun_10 rfl (lv_at hl 0 rfl) ?_
  refine lv_iconst (v := 0) M.1 M.2.1 dX3_beginRun_11 (by decide) ?_
  obtain ⟨σ_5, e_6, hr⟩ := wbd hr
  refine x_put3 M K hB (hq.k) 9 (by decide) wd_11 dX3_beginRun_12 (fun H locs hB => ?_)
  rw [← e_6] at hB
  refine lv_aload_n M.1 M.2.1 dX3_beginRun_15 rfl (lv_at hl 0 rfl) ?_
  refine lv_iconst (v := 0) M.1 M.2.1 dX3_beginRun_16 (by decide) ?_
  obtain ⟨σ_7, e_8, hr⟩ := wbd hr
  refine x_putz3 M K hB (hq.k) 10 (by decide) wd_12 (by decide) dX3_beginRun_17 (fun H locs hB => ?_)
  rw [← e_8] at hB
  refine lv_aload_n M.1 M.2.1 dX3_beginRun_20 rfl (lv_at hl 0 rfl) ?_
  refine lv_iconst (v := 0) M.1 M.2.1 dX3_beginRun_21 (by decide) ?_
  obtain ⟨σ_9, e_10, hr⟩ := wbd hr
  refine x_putz3 M K hB (hq.k) 11 (by decide) wd_13 (by decide) dX3_beginRun_22 (fun H locs hB => ?_)
  rw [← e_10] at hB
  exact x_vret M hB (Option.some.inj hr) dX3_beginRun_25
theorem c_X3_beginRun (l : Launch) (Γ : GG) (q : Nat) (hq : isT q) (σ : Sg) (res : Int32 × Sg) (hr : f_X3_beginRun_0 q σ = some res) : Met l yX3_beginRun (Cond.code yX3_beginRun cX3_beginRun 1 none :: gtb) rm_X3_beginRun (va_Pc [.ref (Γ.1 q)] (GI Γ σ)) (QV Γ res) 0 0 (AD Γ) :=
  x_metV (by decide) [.ref (Γ.1 q)] (Nat.le_of_ble_eq_true rfl) (fun p e s m args below meth c M K ls hl hB => w_X3_beginRun_0 M K hq σ _ _ ls hB hl hr)
abbrev rm_X3_clearDiagnostic : Room := { frames := 0, cells := 0, slots := 0, locals := 0 }
def f_X3_clearDiagnostic_0 (q : Nat)   (σ : Sg) : Option (Int32 × Sg) :=
wb (st σ q 12 0) fun σ_1 =>
wb (st σ_1 q 13 0) fun σ_3 =>
wb (st σ_3 q 15 0) fun σ_5 =>
some (0, σ_5)
set_option maxHeartbeats 4000000 in
set_option maxRecDepth 100000 in
theorem w_X3_clearDiagnostic_0 {p : Program} {l : Launch} {e : Env} {s : State} {m : MethodId} {args : Array Value} {below : List Frame} {meth : Method} {c : Code} {Γ : GG} {res : Int32 × Sg} (M : MX RX3 cX3_clearDiagnostic 1 none p s m args meth c) (K : KK Γ s s.heap) {q : Nat} (hq : isT q)  (σ : Sg) (H : Heap) (locs : List Loc) (ls : Array Slot)  (hB : Bd Γ σ s H locs) (hl : lv_has ls 1 [(0, .ref (Γ.1 q))]) (hr : f_X3_clearDiagnostic_0 q   σ = some res) : WV Γ rm_X3_clearDiagnostic p l e s m args below meth c H locs res (F0 m 0 ls []) := by
  unfold f_X3_clearDiagnostic_0 at hr
  refine lv_aload_n M.1 M.2.1 dX3_clearDiagnostic_0 rfl (lv_at hl 0 rfl) ?_
  refine lv_iconst (v := 0) M.1 M.2.1 dX3_clearDiagnostic_1 (by decide) ?_
  obtain ⟨σ_1, e_2, hr⟩ := wbd hr
  refine x_put3 M K hB (hq.k) 12 (by decide) wd_14 dX3_clearDiagnostic_2 (fun H locs hB => ?_)
  rw [← e_2] at hB
  refine lv_aload_n M.1 M.2.1 dX3_clearDiagnostic_5 rfl (lv_at hl 0 rfl) ?_
  refine lv_iconst (v := 0) M.1 M.2.1 dX3_clearDiagnostic_6 (by decide) ?_
  obtain ⟨σ_3, e_4, hr⟩ := wbd hr
  refine x_putz3 M K hB (hq.k) 13 (by decide) wd_15 (by decide) dX3_clearDiagnostic_7 (fun H locs hB => ?_)
  rw [← e_4] at hB
  refine lv_aload_n M.1 M.2.1 dX3_clearDiagnostic_10 rfl (lv_at hl 0 rfl) ?_
  refine lv_iconst (v := 0) M.1 M.2.1 dX3_clearDiagnostic_11 (by decide) ?_
  obtain ⟨σ_5, e_6, hr⟩ := wbd hr
  refine x_put3 M K hB (hq.k) 15 (by decide) wd_16 dX3_clearDiagnostic_12 (fun H locs hB => ?_)
  rw [← e_6] at hB
  exact x_vret M hB (Option.some.inj hr) dX3_clearDiagnostic_15
theorem c_X3_clearDiagnostic (l : Launch) (Γ : GG) (q : Nat) (hq : isT q) (σ : Sg) (res : Int32 × Sg) (hr : f_X3_clearDiagnostic_0 q σ = some res) : Met l yX3_clearDiagnostic (Cond.code yX3_clearDiagnostic cX3_clearDiagnostic 1 none :: gtb) rm_X3_clearDiagnostic (va_Pc [.ref (Γ.1 q)] (GI Γ σ)) (QV Γ res) 0 0 (AD Γ) :=
  x_metV (by decide) [.ref (Γ.1 q)] (Nat.le_of_ble_eq_true rfl) (fun p e s m args below meth c M K ls hl hB => w_X3_clearDiagnostic_0 M K hq σ _ _ ls hB hl hr)
abbrev rm_X3_becomeNew : Room := { frames := 1, cells := 0, slots := 0, locals := 26 }
def f_X3_becomeNew_30 (q : Nat) (a0 : Int32) (a1 : Int32)  : Nat → Int32 → Sg → Option (Int32 × Sg)
  | 0, _, _ => none
  | f + 1, x3, σ => if 2 ≤ x3 then
cb (f_X3_beginRun_0 q σ) fun v_8 σ_9 =>
cb (f_X3_clearDiagnostic_0 q σ_9) fun v_11 σ_12 =>
some (0, σ_12)
else
cb (f_X3_takeFault_0 q x3 0 0 0 σ) fun v_14 σ_15 =>
f_X3_becomeNew_30 q a0 a1  f (x3 + 1) σ_15
set_option maxHeartbeats 4000000 in
set_option maxRecDepth 100000 in
theorem w_X3_becomeNew_30 {p : Program} {l : Launch} {e : Env} {s : State} {m : MethodId} {args : Array Value} {below : List Frame} {meth : Method} {c : Code} {Γ : GG} {res : Int32 × Sg} (M : MX RX3 cX3_becomeNew 4 none p s m args meth c) (K : KK Γ s s.heap) {q : Nat} (hq : isT q) (a0 : Int32) (a1 : Int32) : ∀ (f : Nat) (x3 : Int32) (σ : Sg) (H : Heap) (locs : List Loc) (ls : Array Slot)  (hB : Bd Γ σ s H locs) (hl : lv_has ls 4 [(0, .ref (Γ.1 q)), (3, .int x3)]) (hr : f_X3_becomeNew_30 q a0 a1  f x3 σ = some res), WV Γ rm_X3_becomeNew p l e s m args below meth c H locs res (F0 m 30 ls []) := by
  intro f
  induction f with
  | zero => intros; rename_i hr; exact absurd hr (by rw [f_X3_becomeNew_30]; exact fun h => by cases h)
  | succ f ih_30 =>
    intro x3 σ H locs ls  hB hl hr
    rw [f_X3_becomeNew_30] at hr
    refine lv_iload_n M.1 M.2.1 dX3_becomeNew_30 rfl (lv_at hl 1 rfl) ?_
    refine lv_iconst (v := 2) M.1 M.2.1 dX3_becomeNew_31 (by decide) ?_
    refine lv_icmp_ge (tgt := 49) M.1 M.2.1 dX3_becomeNew_32 (by decide) (fun c_7 => ?_) (fun c_7 => ?_)
    · rw [if_pos c_7] at hr
      refine lv_aload_n M.1 M.2.1 dX3_becomeNew_49 rfl (lv_at hl 0 rfl) ?_
      obtain ⟨v_8, σ_9, h_10, hr⟩ := cbd hr
      refine x_callV (x_runV M K hB hl.1 [] (rest := []) rfl (c_X3_beginRun l Γ q hq σ (v_8, σ_9) h_10) cy_X3_beginRun (x_recv K hB (hq.k).2 (ent_3 (hq.k).1) rfl) wd_19 ⟨rfl, rfl, Nat.le_of_ble_eq_true rfl, Nat.le_of_ble_eq_true rfl⟩ (Nat.le_of_ble_eq_true rfl) ⟨Nat.zero_le _, Nat.zero_le _⟩ dX3_becomeNew_50) hB (fun H locs hB => ?_)
      replace hB : Bd Γ σ_9 s H locs := hB
      refine lv_aload_n M.1 M.2.1 dX3_becomeNew_53 rfl (lv_at hl 0 rfl) ?_
      obtain ⟨v_11, σ_12, h_13, hr⟩ := cbd hr
      refine x_callV (x_runV M K hB hl.1 [] (rest := []) rfl (c_X3_clearDiagnostic l Γ q hq σ_9 (v_11, σ_12) h_13) cy_X3_clearDiagnostic (x_recv K hB (hq.k).2 (ent_3 (hq.k).1) rfl) wd_20 ⟨rfl, rfl, Nat.le_of_ble_eq_true rfl, Nat.le_of_ble_eq_true rfl⟩ (Nat.le_of_ble_eq_true rfl) ⟨Nat.zero_le _, Nat.zero_le _⟩ dX3_becomeNew_54) hB (fun H locs hB => ?_)
      replace hB : Bd Γ σ_12 s H locs := hB
      exact x_vret M hB (Option.some.inj hr) dX3_becomeNew_57
    · rw [if_neg c_7] at hr
      refine lv_aload_n M.1 M.2.1 dX3_becomeNew_35 rfl (lv_at hl 0 rfl) ?_
      refine lv_iload_n M.1 M.2.1 dX3_becomeNew_36 rfl (lv_at hl 1 rfl) ?_
      refine lv_iconst (v := 0) M.1 M.2.1 dX3_becomeNew_37 (by decide) ?_
      refine lv_iconst (v := 0) M.1 M.2.1 dX3_becomeNew_38 (by decide) ?_
      refine lv_iconst (v := 0) M.1 M.2.1 dX3_becomeNew_39 (by decide) ?_
      obtain ⟨v_14, σ_15, h_16, hr⟩ := cbd hr
      refine x_callV (x_runV M K hB hl.1 [.int x3, .int 0, .int 0, .int 0] (rest := []) rfl (c_X3_takeFault l Γ q x3 0 0 0 hq σ (v_14, σ_15) h_16) cy_X3_takeFault (x_recv K hB (hq.k).2 (ent_3 (hq.k).1) rfl) wd_21 ⟨rfl, rfl, Nat.le_of_ble_eq_true rfl, Nat.le_of_ble_eq_true rfl⟩ (Nat.le_of_ble_eq_true rfl) ⟨Nat.zero_le _, Nat.zero_le _⟩ dX3_becomeNew_40) hB (fun H locs hB => ?_)
      replace hB : Bd Γ σ_15 s H locs := hB
      refine lv_iinc (v := x3 + 1) (lv' := [(3, .int (x3 + 1)), (0, .ref (Γ.1 q))]) M.1 M.2.1 dX3_becomeNew_43 hl (k := 1) rfl rfl (by decide) rfl (fun ls hl => ?_)
      refine lv_goto (tgt := 30) M.1 M.2.1 dX3_becomeNew_46 (by decide) ?_
      exact ih_30 (x3 + 1) _ _ _ _  hB (lv_sub hl [1, 0] rfl) hr
def f_X3_becomeNew_0 (q : Nat) (a0 : Int32) (a1 : Int32)   (σ : Sg) : Option (Int32 × Sg) :=
wb (sr σ (q + 1) (va_cpy (tb 5) (σ (q + 1)) 0 0 8)) fun σ_1 =>
wb (st σ_1 (q + 1) 0 a0) fun σ_3 =>
wb (st σ_3 (q + 1) 1 a1) fun σ_5 =>
f_X3_becomeNew_30 q a0 a1  FU 0 σ_5
set_option maxHeartbeats 4000000 in
set_option maxRecDepth 100000 in
theorem w_X3_becomeNew_0 {p : Program} {l : Launch} {e : Env} {s : State} {m : MethodId} {args : Array Value} {below : List Frame} {meth : Method} {c : Code} {Γ : GG} {res : Int32 × Sg} (M : MX RX3 cX3_becomeNew 4 none p s m args meth c) (K : KK Γ s s.heap) {q : Nat} (hq : isT q) (a0 : Int32) (a1 : Int32)  (σ : Sg) (H : Heap) (locs : List Loc) (ls : Array Slot)  (hB : Bd Γ σ s H locs) (hl : lv_has ls 4 [(0, .ref (Γ.1 q)), (1, .int a0), (2, .int a1)]) (hr : f_X3_becomeNew_0 q a0 a1   σ = some res) : WV Γ rm_X3_becomeNew p l e s m args below meth c H locs res (F0 m 0 ls []) := by
  unfold f_X3_becomeNew_0 at hr
  refine x_getsN M K hB 5 (by decide) nw_1 dX3_becomeNew_0 ?_
  refine lv_iconst (v := 0) M.1 M.2.1 dX3_becomeNew_3 (by decide) ?_
  refine lv_aload_n M.1 M.2.1 dX3_becomeNew_4 rfl (lv_at hl 0 rfl) ?_
  refine x_get3 M K hB (hq.k) 0 (by decide) wd_17 (v := .ref (Γ.1 (q + 1))) rfl dX3_becomeNew_5 ?_
  refine lv_iconst (v := 0) M.1 M.2.1 dX3_becomeNew_8 (by decide) ?_
  refine lv_bipush (v := 8) M.1 M.2.1 dX3_becomeNew_9 (by decide) ?_
  obtain ⟨σ_1, e_2, hr⟩ := wbd hr
  refine x_copyT M K hB hl.1 (by decide : 5 < 6) (hq.a1) wd_18 wd_3 wd_4 wd_5 (by decide) (by decide) (by decide) (by decide) (by decide) (Nat.le_of_ble_eq_true rfl) (Nat.le_of_ble_eq_true rfl) dX3_becomeNew_11 (fun H locs hB => ?_)
  replace hB : Bd Γ (sr σ (q + 1) (va_cpy (tb 5) (σ (q + 1)) 0 0 8)) s H locs := hB
  rw [← e_2] at hB
  refine lv_aload_n M.1 M.2.1 dX3_becomeNew_14 rfl (lv_at hl 0 rfl) ?_
  refine x_get3 M K hB (hq.k) 0 (by decide) wd_17 (v := .ref (Γ.1 (q + 1))) rfl dX3_becomeNew_15 ?_
  refine lv_iconst (v := 0) M.1 M.2.1 dX3_becomeNew_18 (by decide) ?_
  refine lv_iload_n M.1 M.2.1 dX3_becomeNew_19 rfl (lv_at hl 1 rfl) ?_
  obtain ⟨σ_3, e_4, hr⟩ := wbd hr
  refine x_iastL M K hB (hq.a1) (k := 0) (by decide) (by decide) dX3_becomeNew_20 (fun H locs hB => ?_)
  rw [← e_4] at hB
  refine lv_aload_n M.1 M.2.1 dX3_becomeNew_21 rfl (lv_at hl 0 rfl) ?_
  refine x_get3 M K hB (hq.k) 0 (by decide) wd_17 (v := .ref (Γ.1 (q + 1))) rfl dX3_becomeNew_22 ?_
  refine lv_iconst (v := 1) M.1 M.2.1 dX3_becomeNew_25 (by decide) ?_
  refine lv_iload_n M.1 M.2.1 dX3_becomeNew_26 rfl (lv_at hl 2 rfl) ?_
  obtain ⟨σ_5, e_6, hr⟩ := wbd hr
  refine x_iastL M K hB (hq.a1) (k := 1) (by decide) (by decide) dX3_becomeNew_27 (fun H locs hB => ?_)
  rw [← e_6] at hB
  refine lv_iconst (v := 0) M.1 M.2.1 dX3_becomeNew_28 (by decide) ?_
  refine lv_istore_n (lv' := [(3, .int 0), (0, .ref (Γ.1 q)), (1, .int a0), (2, .int a1)]) M.1 M.2.1 dX3_becomeNew_29 rfl hl (by decide) rfl (fun ls hl => ?_)
  exact w_X3_becomeNew_30 M K hq a0 a1  FU 0 _ _ _ _  hB (lv_sub hl [1, 0] rfl) hr
theorem c_X3_becomeNew (l : Launch) (Γ : GG) (q : Nat) (a0 : Int32) (a1 : Int32) (hq : isT q) (σ : Sg) (res : Int32 × Sg) (hr : f_X3_becomeNew_0 q a0 a1 σ = some res) : Met l yX3_becomeNew (Cond.code yX3_becomeNew cX3_becomeNew 4 none :: gtb) rm_X3_becomeNew (va_Pc [.ref (Γ.1 q), .int a0, .int a1] (GI Γ σ)) (QV Γ res) 0 0 (AD Γ) :=
  x_metV (by decide) [.ref (Γ.1 q), .int a0, .int a1] (Nat.le_of_ble_eq_true rfl) (fun p e s m args below meth c M K ls hl hB => w_X3_becomeNew_0 M K hq a0 a1 σ _ _ ls hB hl hr)
abbrev rm_X3_crashesAtBegin : Room := { frames := 0, cells := 0, slots := 0, locals := 0 }
def f_X3_crashesAtBegin_119 (q : Nat) (a0 : Int32) (a1 : Int32)  (s0 : Int32) (σ : Sg) : Option (Int32 × Sg) :=
if s0 = 0 ∨ s0 = 1 then some (s0, σ) else none
set_option maxHeartbeats 4000000 in
set_option maxRecDepth 100000 in
theorem w_X3_crashesAtBegin_119 {p : Program} {l : Launch} {e : Env} {s : State} {m : MethodId} {args : Array Value} {below : List Frame} {meth : Method} {c : Code} {Γ : GG} {res : Int32 × Sg} (M : MX RX3 cX3_crashesAtBegin 5 (some .boolean) p s m args meth c) (K : KK Γ s s.heap) {q : Nat} (hq : isT q) (a0 : Int32) (a1 : Int32) (s0 : Int32) (σ : Sg) (H : Heap) (locs : List Loc) (ls : Array Slot)  (hB : Bd Γ σ s H locs) (hl : lv_has ls 5 []) (hr : f_X3_crashesAtBegin_119 q a0 a1  s0 σ = some res) : WI Γ rm_X3_crashesAtBegin p l e s m args below meth c H locs res (F0 m 119 ls [.int s0]) := by
  unfold f_X3_crashesAtBegin_119 at hr
  obtain ⟨g_23, hr⟩ := gd2 hr
  exact x_zret M hB (nar_z g_23) (Option.some.inj hr) dX3_crashesAtBegin_119
def f_X3_crashesAtBegin_109 (q : Nat) (a0 : Int32) (a1 : Int32)  (x3 : Int32) (σ : Sg) : Option (Int32 × Sg) :=
if x3 = 5 then
f_X3_crashesAtBegin_119 q a0 a1  1 σ
else
f_X3_crashesAtBegin_119 q a0 a1  0 σ
set_option maxHeartbeats 4000000 in
set_option maxRecDepth 100000 in
theorem w_X3_crashesAtBegin_109 {p : Program} {l : Launch} {e : Env} {s : State} {m : MethodId} {args : Array Value} {below : List Frame} {meth : Method} {c : Code} {Γ : GG} {res : Int32 × Sg} (M : MX RX3 cX3_crashesAtBegin 5 (some .boolean) p s m args meth c) (K : KK Γ s s.heap) {q : Nat} (hq : isT q) (a0 : Int32) (a1 : Int32) (x3 : Int32) (σ : Sg) (H : Heap) (locs : List Loc) (ls : Array Slot)  (hB : Bd Γ σ s H locs) (hl : lv_has ls 5 [(3, .int x3)]) (hr : f_X3_crashesAtBegin_109 q a0 a1  x3 σ = some res) : WI Γ rm_X3_crashesAtBegin p l e s m args below meth c H locs res (F0 m 109 ls []) := by
  unfold f_X3_crashesAtBegin_109 at hr
  refine lv_iload_n M.1 M.2.1 dX3_crashesAtBegin_109 rfl (lv_at hl 0 rfl) ?_
  refine lv_iconst (v := 5) M.1 M.2.1 dX3_crashesAtBegin_110 (by decide) ?_
  refine lv_icmp_ne (tgt := 118) M.1 M.2.1 dX3_crashesAtBegin_111 (by decide) (fun c_22 => ?_) (fun c_22 => ?_)
  · rw [if_neg c_22] at hr
    refine lv_iconst (v := 0) M.1 M.2.1 dX3_crashesAtBegin_118 (by decide) ?_
    exact w_X3_crashesAtBegin_119 M K hq a0 a1  0 _ _ _ _  hB (lv_sub hl [] rfl) hr
  · rw [if_pos c_22] at hr
    refine lv_iconst (v := 1) M.1 M.2.1 dX3_crashesAtBegin_114 (by decide) ?_
    refine lv_goto (tgt := 119) M.1 M.2.1 dX3_crashesAtBegin_115 (by decide) ?_
    exact w_X3_crashesAtBegin_119 M K hq a0 a1  1 _ _ _ _  hB (lv_sub hl [] rfl) hr
def f_X3_crashesAtBegin_105 (q : Nat) (a0 : Int32) (a1 : Int32)  (x3 : Int32) (s0 : Int32) (s1 : Int32) (σ : Sg) : Option (Int32 × Sg) :=
wb (st σ q 8 (s1 + s0)) fun σ_20 =>
f_X3_crashesAtBegin_109 q a0 a1  x3 σ_20
set_option maxHeartbeats 4000000 in
set_option maxRecDepth 100000 in
theorem w_X3_crashesAtBegin_105 {p : Program} {l : Launch} {e : Env} {s : State} {m : MethodId} {args : Array Value} {below : List Frame} {meth : Method} {c : Code} {Γ : GG} {res : Int32 × Sg} (M : MX RX3 cX3_crashesAtBegin 5 (some .boolean) p s m args meth c) (K : KK Γ s s.heap) {q : Nat} (hq : isT q) (a0 : Int32) (a1 : Int32) (x3 : Int32) (s0 : Int32) (s1 : Int32) (σ : Sg) (H : Heap) (locs : List Loc) (ls : Array Slot)  (hB : Bd Γ σ s H locs) (hl : lv_has ls 5 [(3, .int x3)]) (hr : f_X3_crashesAtBegin_105 q a0 a1  x3 s0 s1 σ = some res) : WI Γ rm_X3_crashesAtBegin p l e s m args below meth c H locs res (F0 m 105 ls [.int s0, .int s1, .ref (Γ.1 q)]) := by
  unfold f_X3_crashesAtBegin_105 at hr
  refine lv_iadd M.1 M.2.1 dX3_crashesAtBegin_105 ?_
  obtain ⟨σ_20, e_21, hr⟩ := wbd hr
  refine x_put3 M K hB (hq.k) 8 (by decide) wd_10 dX3_crashesAtBegin_106 (fun H locs hB => ?_)
  rw [← e_21] at hB
  exact w_X3_crashesAtBegin_109 M K hq a0 a1  x3 _ _ _ _  hB (lv_sub hl [0] rfl) hr
def f_X3_crashesAtBegin_81 (q : Nat) (a0 : Int32) (a1 : Int32)  (x3 : Int32) (s0 : Int32) (s1 : Int32) (σ : Sg) : Option (Int32 × Sg) :=
wb (st σ q 7 (s1 + s0)) fun σ_16 =>
if x3 = 3 then
f_X3_crashesAtBegin_109 q a0 a1  x3 σ_16
else
if x3 = 4 then
f_X3_crashesAtBegin_105 q a0 a1  x3 2 (σ_16 q 8) σ_16
else
f_X3_crashesAtBegin_105 q a0 a1  x3 1 (σ_16 q 8) σ_16
set_option maxHeartbeats 4000000 in
set_option maxRecDepth 100000 in
theorem w_X3_crashesAtBegin_81 {p : Program} {l : Launch} {e : Env} {s : State} {m : MethodId} {args : Array Value} {below : List Frame} {meth : Method} {c : Code} {Γ : GG} {res : Int32 × Sg} (M : MX RX3 cX3_crashesAtBegin 5 (some .boolean) p s m args meth c) (K : KK Γ s s.heap) {q : Nat} (hq : isT q) (a0 : Int32) (a1 : Int32) (x3 : Int32) (s0 : Int32) (s1 : Int32) (σ : Sg) (H : Heap) (locs : List Loc) (ls : Array Slot)  (hB : Bd Γ σ s H locs) (hl : lv_has ls 5 [(0, .ref (Γ.1 q)), (3, .int x3)]) (hr : f_X3_crashesAtBegin_81 q a0 a1  x3 s0 s1 σ = some res) : WI Γ rm_X3_crashesAtBegin p l e s m args below meth c H locs res (F0 m 81 ls [.int s0, .int s1, .ref (Γ.1 q)]) := by
  unfold f_X3_crashesAtBegin_81 at hr
  refine lv_iadd M.1 M.2.1 dX3_crashesAtBegin_81 ?_
  obtain ⟨σ_16, e_17, hr⟩ := wbd hr
  refine x_put3 M K hB (hq.k) 7 (by decide) wd_24 dX3_crashesAtBegin_82 (fun H locs hB => ?_)
  rw [← e_17] at hB
  refine lv_iload_n M.1 M.2.1 dX3_crashesAtBegin_85 rfl (lv_at hl 1 rfl) ?_
  refine lv_iconst (v := 3) M.1 M.2.1 dX3_crashesAtBegin_86 (by decide) ?_
  refine lv_icmp_eq (tgt := 109) M.1 M.2.1 dX3_crashesAtBegin_87 (by decide) (fun c_18 => ?_) (fun c_18 => ?_)
  · rw [if_pos c_18] at hr
    exact w_X3_crashesAtBegin_109 M K hq a0 a1  x3 _ _ _ _  hB (lv_sub hl [1] rfl) hr
  · rw [if_neg c_18] at hr
    refine lv_aload_n M.1 M.2.1 dX3_crashesAtBegin_90 rfl (lv_at hl 0 rfl) ?_
    refine lv_dup M.1 M.2.1 dX3_crashesAtBegin_91 rfl ?_
    refine x_get3 M K hB (hq.k) 8 (by decide) wd_10 (v := .int (σ_16 q 8)) rfl dX3_crashesAtBegin_92 ?_
    refine lv_iload_n M.1 M.2.1 dX3_crashesAtBegin_95 rfl (lv_at hl 1 rfl) ?_
    refine lv_iconst (v := 4) M.1 M.2.1 dX3_crashesAtBegin_96 (by decide) ?_
    refine lv_icmp_ne (tgt := 104) M.1 M.2.1 dX3_crashesAtBegin_97 (by decide) (fun c_19 => ?_) (fun c_19 => ?_)
    · rw [if_neg c_19] at hr
      refine lv_iconst (v := 1) M.1 M.2.1 dX3_crashesAtBegin_104 (by decide) ?_
      exact w_X3_crashesAtBegin_105 M K hq a0 a1  x3 1 (σ_16 q 8) _ _ _ _  hB (lv_sub hl [1] rfl) hr
    · rw [if_pos c_19] at hr
      refine lv_iconst (v := 2) M.1 M.2.1 dX3_crashesAtBegin_100 (by decide) ?_
      refine lv_goto (tgt := 105) M.1 M.2.1 dX3_crashesAtBegin_101 (by decide) ?_
      exact w_X3_crashesAtBegin_105 M K hq a0 a1  x3 2 (σ_16 q 8) _ _ _ _  hB (lv_sub hl [1] rfl) hr
def f_X3_crashesAtBegin_55 (q : Nat) (a0 : Int32) (a1 : Int32)  (x1 : Int32) (x3 : Int32) (x4 : Int32) (s0 : Int32) (σ : Sg) : Option (Int32 × Sg) :=
if s0 = 0 ∨ s0 = 1 then
wb (st σ q 5 s0) fun σ_11 =>
wb (st σ_11 q 6 x1) fun σ_13 =>
if x3 = 2 then
f_X3_crashesAtBegin_81 q a0 a1  x3 x4 (σ_13 (q + 1) 1) σ_13
else
f_X3_crashesAtBegin_81 q a0 a1  x3 0 (σ_13 (q + 1) 1) σ_13 else none
set_option maxHeartbeats 4000000 in
set_option maxRecDepth 100000 in
theorem w_X3_crashesAtBegin_55 {p : Program} {l : Launch} {e : Env} {s : State} {m : MethodId} {args : Array Value} {below : List Frame} {meth : Method} {c : Code} {Γ : GG} {res : Int32 × Sg} (M : MX RX3 cX3_crashesAtBegin 5 (some .boolean) p s m args meth c) (K : KK Γ s s.heap) {q : Nat} (hq : isT q) (a0 : Int32) (a1 : Int32) (x1 : Int32) (x3 : Int32) (x4 : Int32) (s0 : Int32) (σ : Sg) (H : Heap) (locs : List Loc) (ls : Array Slot)  (hB : Bd Γ σ s H locs) (hl : lv_has ls 5 [(0, .ref (Γ.1 q)), (1, .int x1), (3, .int x3), (4, .int x4)]) (hr : f_X3_crashesAtBegin_55 q a0 a1  x1 x3 x4 s0 σ = some res) : WI Γ rm_X3_crashesAtBegin p l e s m args below meth c H locs res (F0 m 55 ls [.int s0, .ref (Γ.1 q)]) := by
  unfold f_X3_crashesAtBegin_55 at hr
  obtain ⟨g_10, hr⟩ := gd2 hr
  obtain ⟨σ_11, e_12, hr⟩ := wbd hr
  refine x_putz3 M K hB (hq.k) 5 (by decide) wd_22 g_10 dX3_crashesAtBegin_55 (fun H locs hB => ?_)
  rw [← e_12] at hB
  refine lv_aload_n M.1 M.2.1 dX3_crashesAtBegin_58 rfl (lv_at hl 0 rfl) ?_
  refine lv_iload_n M.1 M.2.1 dX3_crashesAtBegin_59 rfl (lv_at hl 1 rfl) ?_
  obtain ⟨σ_13, e_14, hr⟩ := wbd hr
  refine x_put3 M K hB (hq.k) 6 (by decide) wd_23 dX3_crashesAtBegin_60 (fun H locs hB => ?_)
  rw [← e_14] at hB
  refine lv_aload_n M.1 M.2.1 dX3_crashesAtBegin_63 rfl (lv_at hl 0 rfl) ?_
  refine lv_aload_n M.1 M.2.1 dX3_crashesAtBegin_64 rfl (lv_at hl 0 rfl) ?_
  refine x_get3 M K hB (hq.k) 0 (by decide) wd_17 (v := .ref (Γ.1 (q + 1))) rfl dX3_crashesAtBegin_65 ?_
  refine lv_iconst (v := 1) M.1 M.2.1 dX3_crashesAtBegin_68 (by decide) ?_
  refine x_ialdL M K hB (hq.a1) (k := 1) (by decide) (by decide) dX3_crashesAtBegin_69 ?_
  refine lv_iload_n M.1 M.2.1 dX3_crashesAtBegin_70 rfl (lv_at hl 2 rfl) ?_
  refine lv_iconst (v := 2) M.1 M.2.1 dX3_crashesAtBegin_71 (by decide) ?_
  refine lv_icmp_ne (tgt := 80) M.1 M.2.1 dX3_crashesAtBegin_72 (by decide) (fun c_15 => ?_) (fun c_15 => ?_)
  · rw [if_neg c_15] at hr
    refine lv_iconst (v := 0) M.1 M.2.1 dX3_crashesAtBegin_80 (by decide) ?_
    exact w_X3_crashesAtBegin_81 M K hq a0 a1  x3 0 (σ_13 (q + 1) 1) _ _ _ _  hB (lv_sub hl [0, 2] rfl) hr
  · rw [if_pos c_15] at hr
    refine lv_iload M.1 M.2.1 dX3_crashesAtBegin_75 (lv_at hl 3 rfl) ?_
    refine lv_goto (tgt := 81) M.1 M.2.1 dX3_crashesAtBegin_77 (by decide) ?_
    exact w_X3_crashesAtBegin_81 M K hq a0 a1  x3 x4 (σ_13 (q + 1) 1) _ _ _ _  hB (lv_sub hl [0, 2] rfl) hr
def f_X3_crashesAtBegin_39 (q : Nat) (a0 : Int32) (a1 : Int32)  (x1 : Int32) (x3 : Int32) (x4 : Int32) (σ : Sg) : Option (Int32 × Sg) :=
wb (st σ q 4 1) fun σ_7 =>
if x3 = 1 then
f_X3_crashesAtBegin_55 q a0 a1  x1 x3 x4 1 σ_7
else
f_X3_crashesAtBegin_55 q a0 a1  x1 x3 x4 0 σ_7
set_option maxHeartbeats 4000000 in
set_option maxRecDepth 100000 in
theorem w_X3_crashesAtBegin_39 {p : Program} {l : Launch} {e : Env} {s : State} {m : MethodId} {args : Array Value} {below : List Frame} {meth : Method} {c : Code} {Γ : GG} {res : Int32 × Sg} (M : MX RX3 cX3_crashesAtBegin 5 (some .boolean) p s m args meth c) (K : KK Γ s s.heap) {q : Nat} (hq : isT q) (a0 : Int32) (a1 : Int32) (x1 : Int32) (x3 : Int32) (x4 : Int32) (σ : Sg) (H : Heap) (locs : List Loc) (ls : Array Slot)  (hB : Bd Γ σ s H locs) (hl : lv_has ls 5 [(0, .ref (Γ.1 q)), (1, .int x1), (3, .int x3), (4, .int x4)]) (hr : f_X3_crashesAtBegin_39 q a0 a1  x1 x3 x4 σ = some res) : WI Γ rm_X3_crashesAtBegin p l e s m args below meth c H locs res (F0 m 39 ls []) := by
  unfold f_X3_crashesAtBegin_39 at hr
  refine lv_aload_n M.1 M.2.1 dX3_crashesAtBegin_39 rfl (lv_at hl 0 rfl) ?_
  refine lv_iconst (v := 1) M.1 M.2.1 dX3_crashesAtBegin_40 (by decide) ?_
  obtain ⟨σ_7, e_8, hr⟩ := wbd hr
  refine x_putz3 M K hB (hq.k) 4 (by decide) wd_9 (by decide) dX3_crashesAtBegin_41 (fun H locs hB => ?_)
  rw [← e_8] at hB
  refine lv_aload_n M.1 M.2.1 dX3_crashesAtBegin_44 rfl (lv_at hl 0 rfl) ?_
  refine lv_iload_n M.1 M.2.1 dX3_crashesAtBegin_45 rfl (lv_at hl 2 rfl) ?_
  refine lv_iconst (v := 1) M.1 M.2.1 dX3_crashesAtBegin_46 (by decide) ?_
  refine lv_icmp_ne (tgt := 54) M.1 M.2.1 dX3_crashesAtBegin_47 (by decide) (fun c_9 => ?_) (fun c_9 => ?_)
  · rw [if_neg c_9] at hr
    refine lv_iconst (v := 0) M.1 M.2.1 dX3_crashesAtBegin_54 (by decide) ?_
    exact w_X3_crashesAtBegin_55 M K hq a0 a1  x1 x3 x4 0 _ _ _ _  hB (lv_sub hl [0, 1, 2, 3] rfl) hr
  · rw [if_pos c_9] at hr
    refine lv_iconst (v := 1) M.1 M.2.1 dX3_crashesAtBegin_50 (by decide) ?_
    refine lv_goto (tgt := 55) M.1 M.2.1 dX3_crashesAtBegin_51 (by decide) ?_
    exact w_X3_crashesAtBegin_55 M K hq a0 a1  x1 x3 x4 1 _ _ _ _  hB (lv_sub hl [0, 1, 2, 3] rfl) hr
def f_X3_crashesAtBegin_0 (q : Nat) (a0 : Int32) (a1 : Int32)   (σ : Sg) : Option (Int32 × Sg) :=
if a1 < 0 then
f_X3_crashesAtBegin_39 q a0 a1  a0 0 0 σ
else
if 2 ≤ a1 then
f_X3_crashesAtBegin_39 q a0 a1  a0 0 0 σ
else
if a1 < 0 ∨ 2 ≤ a1.toNatClampNeg then none else
if a0 < σ (q + 3) (a1.toNatClampNeg) then
f_X3_crashesAtBegin_39 q a0 a1  a0 0 0 σ
else
if a1 < 0 ∨ 2 ≤ a1.toNatClampNeg then none else
if a1 < 0 ∨ 2 ≤ a1.toNatClampNeg then none else
f_X3_crashesAtBegin_39 q a0 a1  a0 (σ (q + 2) (a1.toNatClampNeg)) (σ (q + 4) (a1.toNatClampNeg)) σ
set_option maxHeartbeats 4000000 in
set_option maxRecDepth 100000 in
theorem w_X3_crashesAtBegin_0 {p : Program} {l : Launch} {e : Env} {s : State} {m : MethodId} {args : Array Value} {below : List Frame} {meth : Method} {c : Code} {Γ : GG} {res : Int32 × Sg} (M : MX RX3 cX3_crashesAtBegin 5 (some .boolean) p s m args meth c) (K : KK Γ s s.heap) {q : Nat} (hq : isT q) (a0 : Int32) (a1 : Int32)  (σ : Sg) (H : Heap) (locs : List Loc) (ls : Array Slot)  (hB : Bd Γ σ s H locs) (hl : lv_has ls 5 [(0, .ref (Γ.1 q)), (1, .int a0), (2, .int a1)]) (hr : f_X3_crashesAtBegin_0 q a0 a1   σ = some res) : WI Γ rm_X3_crashesAtBegin p l e s m args below meth c H locs res (F0 m 0 ls []) := by
  unfold f_X3_crashesAtBegin_0 at hr
  refine lv_iconst (v := 0) M.1 M.2.1 dX3_crashesAtBegin_0 (by decide) ?_
  refine lv_istore_n (lv' := [(3, .int 0), (0, .ref (Γ.1 q)), (1, .int a0), (2, .int a1)]) M.1 M.2.1 dX3_crashesAtBegin_1 rfl hl (by decide) rfl (fun ls hl => ?_)
  refine lv_iconst (v := 0) M.1 M.2.1 dX3_crashesAtBegin_2 (by decide) ?_
  refine lv_istore (lv' := [(4, .int 0), (3, .int 0), (0, .ref (Γ.1 q)), (1, .int a0), (2, .int a1)]) M.1 M.2.1 dX3_crashesAtBegin_3 hl (by decide) rfl (fun ls hl => ?_)
  refine lv_iload_n M.1 M.2.1 dX3_crashesAtBegin_5 rfl (lv_at hl 4 rfl) ?_
  refine lv_if_lt (tgt := 39) M.1 M.2.1 dX3_crashesAtBegin_6 (by decide) (fun c_1 => ?_) (fun c_1 => ?_)
  · rw [if_pos c_1] at hr
    exact w_X3_crashesAtBegin_39 M K hq a0 a1  a0 0 0 _ _ _ _  hB (lv_sub hl [2, 3, 1, 0] rfl) hr
  · rw [if_neg c_1] at hr
    refine lv_iload_n M.1 M.2.1 dX3_crashesAtBegin_9 rfl (lv_at hl 4 rfl) ?_
    refine lv_iconst (v := 2) M.1 M.2.1 dX3_crashesAtBegin_10 (by decide) ?_
    refine lv_icmp_ge (tgt := 39) M.1 M.2.1 dX3_crashesAtBegin_11 (by decide) (fun c_2 => ?_) (fun c_2 => ?_)
    · rw [if_pos c_2] at hr
      exact w_X3_crashesAtBegin_39 M K hq a0 a1  a0 0 0 _ _ _ _  hB (lv_sub hl [2, 3, 1, 0] rfl) hr
    · rw [if_neg c_2] at hr
      refine lv_iload_n M.1 M.2.1 dX3_crashesAtBegin_14 rfl (lv_at hl 3 rfl) ?_
      refine lv_aload_n M.1 M.2.1 dX3_crashesAtBegin_15 rfl (lv_at hl 2 rfl) ?_
      refine x_get3 M K hB (hq.k) 2 (by decide) wd_7 (v := .ref (Γ.1 (q + 3))) rfl dX3_crashesAtBegin_16 ?_
      refine lv_iload_n M.1 M.2.1 dX3_crashesAtBegin_19 rfl (lv_at hl 4 rfl) ?_
      obtain ⟨g_3, hr⟩ := gd hr
      refine x_iald M K hB (hq.a3) g_3 dX3_crashesAtBegin_20 ?_
      refine lv_icmp_lt (tgt := 39) M.1 M.2.1 dX3_crashesAtBegin_21 (by decide) (fun c_4 => ?_) (fun c_4 => ?_)
      · rw [if_pos c_4] at hr
        exact w_X3_crashesAtBegin_39 M K hq a0 a1  a0 0 0 _ _ _ _  hB (lv_sub hl [2, 3, 1, 0] rfl) hr
      · rw [if_neg c_4] at hr
        refine lv_aload_n M.1 M.2.1 dX3_crashesAtBegin_24 rfl (lv_at hl 2 rfl) ?_
        refine x_get3 M K hB (hq.k) 1 (by decide) wd_6 (v := .ref (Γ.1 (q + 2))) rfl dX3_crashesAtBegin_25 ?_
        refine lv_iload_n M.1 M.2.1 dX3_crashesAtBegin_28 rfl (lv_at hl 4 rfl) ?_
        obtain ⟨g_5, hr⟩ := gd hr
        refine x_iald M K hB (hq.a2) g_5 dX3_crashesAtBegin_29 ?_
        refine lv_istore_n (lv' := [(3, .int (σ (q + 2) (a1.toNatClampNeg))), (4, .int 0), (0, .ref (Γ.1 q)), (1, .int a0), (2, .int a1)]) M.1 M.2.1 dX3_crashesAtBegin_30 rfl hl (by decide) rfl (fun ls hl => ?_)
        refine lv_aload_n M.1 M.2.1 dX3_crashesAtBegin_31 rfl (lv_at hl 2 rfl) ?_
        refine x_get3 M K hB (hq.k) 3 (by decide) wd_8 (v := .ref (Γ.1 (q + 4))) rfl dX3_crashesAtBegin_32 ?_
        refine lv_iload_n M.1 M.2.1 dX3_crashesAtBegin_35 rfl (lv_at hl 4 rfl) ?_
        obtain ⟨g_6, hr⟩ := gd hr
        refine x_iald M K hB (hq.a4) g_6 dX3_crashesAtBegin_36 ?_
        refine lv_istore (lv' := [(4, .int (σ (q + 4) (a1.toNatClampNeg))), (3, .int (σ (q + 2) (a1.toNatClampNeg))), (0, .ref (Γ.1 q)), (1, .int a0), (2, .int a1)]) M.1 M.2.1 dX3_crashesAtBegin_37 hl (by decide) rfl (fun ls hl => ?_)
        exact w_X3_crashesAtBegin_39 M K hq a0 a1  a0 (σ (q + 2) (a1.toNatClampNeg)) (σ (q + 4) (a1.toNatClampNeg)) _ _ _ _  hB (lv_sub hl [2, 3, 1, 0] rfl) hr
theorem c_X3_crashesAtBegin (l : Launch) (Γ : GG) (q : Nat) (a0 : Int32) (a1 : Int32) (hq : isT q) (σ : Sg) (res : Int32 × Sg) (hr : f_X3_crashesAtBegin_0 q a0 a1 σ = some res) : Met l yX3_crashesAtBegin (Cond.code yX3_crashesAtBegin cX3_crashesAtBegin 5 (some .boolean) :: gtb) rm_X3_crashesAtBegin (va_Pc [.ref (Γ.1 q), .int a0, .int a1] (GI Γ σ)) (QI Γ res) 0 0 (AD Γ) :=
  x_metI (by decide) [.ref (Γ.1 q), .int a0, .int a1] (Nat.le_of_ble_eq_true rfl) (fun p e s m args below meth c M K ls hl hB => w_X3_crashesAtBegin_0 M K hq a0 a1 σ _ _ ls hB hl hr)
abbrev rm_X3_crashesInTick : Room := { frames := 1, cells := 0, slots := 0, locals := 24 }
def f_X3_crashesInTick_116 (q : Nat) (a0 : Int32) (a1 : Int32)   (σ : Sg) : Option (Int32 × Sg) :=
some (0, σ)
set_option maxHeartbeats 4000000 in
set_option maxRecDepth 100000 in
theorem w_X3_crashesInTick_116 {p : Program} {l : Launch} {e : Env} {s : State} {m : MethodId} {args : Array Value} {below : List Frame} {meth : Method} {c : Code} {Γ : GG} {res : Int32 × Sg} (M : MX RX3 cX3_crashesInTick 3 (some .boolean) p s m args meth c) (K : KK Γ s s.heap) {q : Nat} (hq : isT q) (a0 : Int32) (a1 : Int32)  (σ : Sg) (H : Heap) (locs : List Loc) (ls : Array Slot)  (hB : Bd Γ σ s H locs) (hl : lv_has ls 3 []) (hr : f_X3_crashesInTick_116 q a0 a1   σ = some res) : WI Γ rm_X3_crashesInTick p l e s m args below meth c H locs res (F0 m 116 ls []) := by
  unfold f_X3_crashesInTick_116 at hr
  refine lv_iconst (v := 0) M.1 M.2.1 dX3_crashesInTick_116 (by decide) ?_
  exact x_zret M hB (nar_z (by decide)) (Option.some.inj hr) dX3_crashesInTick_117
def f_X3_crashesInTick_78 (q : Nat) (a0 : Int32) (a1 : Int32)  (x1 : Int32) (σ : Sg) : Option (Int32 × Sg) :=
if σ q 4 = 0 then
f_X3_crashesInTick_116 q a0 a1   σ
else
if σ (q + 1) 7 = 0 then
f_X3_crashesInTick_116 q a0 a1   σ
else
if x1 - (σ q 6) ≤ σ (q + 1) 7 then
f_X3_crashesInTick_116 q a0 a1   σ
else
wb (st σ q 10 1) fun σ_21 =>
f_X3_crashesInTick_116 q a0 a1   σ_21
set_option maxHeartbeats 4000000 in
set_option maxRecDepth 100000 in
theorem w_X3_crashesInTick_78 {p : Program} {l : Launch} {e : Env} {s : State} {m : MethodId} {args : Array Value} {below : List Frame} {meth : Method} {c : Code} {Γ : GG} {res : Int32 × Sg} (M : MX RX3 cX3_crashesInTick 3 (some .boolean) p s m args meth c) (K : KK Γ s s.heap) {q : Nat} (hq : isT q) (a0 : Int32) (a1 : Int32) (x1 : Int32) (σ : Sg) (H : Heap) (locs : List Loc) (ls : Array Slot)  (hB : Bd Γ σ s H locs) (hl : lv_has ls 3 [(0, .ref (Γ.1 q)), (1, .int x1)]) (hr : f_X3_crashesInTick_78 q a0 a1  x1 σ = some res) : WI Γ rm_X3_crashesInTick p l e s m args below meth c H locs res (F0 m 78 ls []) := by
  unfold f_X3_crashesInTick_78 at hr
  refine lv_aload_n M.1 M.2.1 dX3_crashesInTick_78 rfl (lv_at hl 0 rfl) ?_
  refine x_get3 M K hB (hq.k) 4 (by decide) wd_9 (v := .int (σ q 4)) rfl dX3_crashesInTick_79 ?_
  refine lv_if_eq (tgt := 116) M.1 M.2.1 dX3_crashesInTick_82 (by decide) (fun c_18 => ?_) (fun c_18 => ?_)
  · rw [if_pos c_18] at hr
    exact w_X3_crashesInTick_116 M K hq a0 a1   _ _ _ _  hB (lv_sub hl [] rfl) hr
  · rw [if_neg c_18] at hr
    refine lv_aload_n M.1 M.2.1 dX3_crashesInTick_85 rfl (lv_at hl 0 rfl) ?_
    refine x_get3 M K hB (hq.k) 0 (by decide) wd_17 (v := .ref (Γ.1 (q + 1))) rfl dX3_crashesInTick_86 ?_
    refine lv_bipush (v := 7) M.1 M.2.1 dX3_crashesInTick_89 (by decide) ?_
    refine x_ialdL M K hB (hq.a1) (k := 7) (by decide) (by decide) dX3_crashesInTick_91 ?_
    refine lv_if_eq (tgt := 116) M.1 M.2.1 dX3_crashesInTick_92 (by decide) (fun c_19 => ?_) (fun c_19 => ?_)
    · rw [if_pos c_19] at hr
      exact w_X3_crashesInTick_116 M K hq a0 a1   _ _ _ _  hB (lv_sub hl [] rfl) hr
    · rw [if_neg c_19] at hr
      refine lv_iload_n M.1 M.2.1 dX3_crashesInTick_95 rfl (lv_at hl 1 rfl) ?_
      refine lv_aload_n M.1 M.2.1 dX3_crashesInTick_96 rfl (lv_at hl 0 rfl) ?_
      refine x_get3 M K hB (hq.k) 6 (by decide) wd_23 (v := .int (σ q 6)) rfl dX3_crashesInTick_97 ?_
      refine lv_isub M.1 M.2.1 dX3_crashesInTick_100 ?_
      refine lv_aload_n M.1 M.2.1 dX3_crashesInTick_101 rfl (lv_at hl 0 rfl) ?_
      refine x_get3 M K hB (hq.k) 0 (by decide) wd_17 (v := .ref (Γ.1 (q + 1))) rfl dX3_crashesInTick_102 ?_
      refine lv_bipush (v := 7) M.1 M.2.1 dX3_crashesInTick_105 (by decide) ?_
      refine x_ialdL M K hB (hq.a1) (k := 7) (by decide) (by decide) dX3_crashesInTick_107 ?_
      refine lv_icmp_le (tgt := 116) M.1 M.2.1 dX3_crashesInTick_108 (by decide) (fun c_20 => ?_) (fun c_20 => ?_)
      · rw [if_pos c_20] at hr
        exact w_X3_crashesInTick_116 M K hq a0 a1   _ _ _ _  hB (lv_sub hl [] rfl) hr
      · rw [if_neg c_20] at hr
        refine lv_aload_n M.1 M.2.1 dX3_crashesInTick_111 rfl (lv_at hl 0 rfl) ?_
        refine lv_iconst (v := 1) M.1 M.2.1 dX3_crashesInTick_112 (by decide) ?_
        obtain ⟨σ_21, e_22, hr⟩ := wbd hr
        refine x_putz3 M K hB (hq.k) 10 (by decide) wd_12 (by decide) dX3_crashesInTick_113 (fun H locs hB => ?_)
        rw [← e_22] at hB
        exact w_X3_crashesInTick_116 M K hq a0 a1   _ _ _ _  hB (lv_sub hl [] rfl) hr
def f_X3_crashesInTick_40 (q : Nat) (a0 : Int32) (a1 : Int32)  (x1 : Int32) (x2 : Int32) (σ : Sg) : Option (Int32 × Sg) :=
if σ q 4 = 0 then
cb (f_X4_divides_0 (σ (q + 1) 0) (x1 - (σ (q + 1) 2)) σ) fun v_10 σ_11 =>
if v_10 = 0 then
f_X3_crashesInTick_78 q a0 a1  x1 σ_11
else
cb (f_X3_crashesAtBegin_0 q x1 x2 σ_11) fun v_14 σ_15 =>
if v_14 = 0 then
f_X3_crashesInTick_78 q a0 a1  x1 σ_15
else
some (1, σ_15)
else
f_X3_crashesInTick_78 q a0 a1  x1 σ
set_option maxHeartbeats 4000000 in
set_option maxRecDepth 100000 in
theorem w_X3_crashesInTick_40 {p : Program} {l : Launch} {e : Env} {s : State} {m : MethodId} {args : Array Value} {below : List Frame} {meth : Method} {c : Code} {Γ : GG} {res : Int32 × Sg} (M : MX RX3 cX3_crashesInTick 3 (some .boolean) p s m args meth c) (K : KK Γ s s.heap) {q : Nat} (hq : isT q) (a0 : Int32) (a1 : Int32) (x1 : Int32) (x2 : Int32) (σ : Sg) (H : Heap) (locs : List Loc) (ls : Array Slot)  (hB : Bd Γ σ s H locs) (hl : lv_has ls 3 [(0, .ref (Γ.1 q)), (1, .int x1), (2, .int x2)]) (hr : f_X3_crashesInTick_40 q a0 a1  x1 x2 σ = some res) : WI Γ rm_X3_crashesInTick p l e s m args below meth c H locs res (F0 m 40 ls []) := by
  unfold f_X3_crashesInTick_40 at hr
  refine lv_aload_n M.1 M.2.1 dX3_crashesInTick_40 rfl (lv_at hl 0 rfl) ?_
  refine x_get3 M K hB (hq.k) 4 (by decide) wd_9 (v := .int (σ q 4)) rfl dX3_crashesInTick_41 ?_
  refine lv_if_ne (tgt := 78) M.1 M.2.1 dX3_crashesInTick_44 (by decide) (fun c_9 => ?_) (fun c_9 => ?_)
  · rw [if_neg c_9] at hr
    exact w_X3_crashesInTick_78 M K hq a0 a1  x1 _ _ _ _  hB (lv_sub hl [0, 1] rfl) hr
  · rw [if_pos c_9] at hr
    refine lv_aload_n M.1 M.2.1 dX3_crashesInTick_47 rfl (lv_at hl 0 rfl) ?_
    refine x_get3 M K hB (hq.k) 0 (by decide) wd_17 (v := .ref (Γ.1 (q + 1))) rfl dX3_crashesInTick_48 ?_
    refine lv_iconst (v := 0) M.1 M.2.1 dX3_crashesInTick_51 (by decide) ?_
    refine x_ialdL M K hB (hq.a1) (k := 0) (by decide) (by decide) dX3_crashesInTick_52 ?_
    refine lv_iload_n M.1 M.2.1 dX3_crashesInTick_53 rfl (lv_at hl 1 rfl) ?_
    refine lv_aload_n M.1 M.2.1 dX3_crashesInTick_54 rfl (lv_at hl 0 rfl) ?_
    refine x_get3 M K hB (hq.k) 0 (by decide) wd_17 (v := .ref (Γ.1 (q + 1))) rfl dX3_crashesInTick_55 ?_
    refine lv_iconst (v := 2) M.1 M.2.1 dX3_crashesInTick_58 (by decide) ?_
    refine x_ialdL M K hB (hq.a1) (k := 2) (by decide) (by decide) dX3_crashesInTick_59 ?_
    refine lv_isub M.1 M.2.1 dX3_crashesInTick_60 ?_
    obtain ⟨v_10, σ_11, h_12, hr⟩ := cbd hr
    refine x_callI (x_runSN M K hB hl.1 [.int (σ (q + 1) 0), .int (x1 - (σ (q + 1) 2))] (rest := []) rfl (c_X4_divides l Γ (σ (q + 1) 0) (x1 - (σ (q + 1) 2))  σ (v_10, σ_11) h_12) cy_X4_divides nw_2 ⟨rfl, rfl, Nat.le_of_ble_eq_true rfl, Nat.le_of_ble_eq_true rfl⟩ (Nat.le_of_ble_eq_true rfl) ⟨Nat.zero_le _, Nat.zero_le _⟩ dX3_crashesInTick_61) hB (fun H locs hB => ?_)
    replace hB : Bd Γ σ_11 s H locs := hB
    refine lv_if_eq (tgt := 78) M.1 M.2.1 dX3_crashesInTick_64 (by decide) (fun c_13 => ?_) (fun c_13 => ?_)
    · rw [if_pos c_13] at hr
      exact w_X3_crashesInTick_78 M K hq a0 a1  x1 _ _ _ _  hB (lv_sub hl [0, 1] rfl) hr
    · rw [if_neg c_13] at hr
      refine lv_aload_n M.1 M.2.1 dX3_crashesInTick_67 rfl (lv_at hl 0 rfl) ?_
      refine lv_iload_n M.1 M.2.1 dX3_crashesInTick_68 rfl (lv_at hl 1 rfl) ?_
      refine lv_iload_n M.1 M.2.1 dX3_crashesInTick_69 rfl (lv_at hl 2 rfl) ?_
      obtain ⟨v_14, σ_15, h_16, hr⟩ := cbd hr
      refine x_callI (x_runV M K hB hl.1 [.int x1, .int x2] (rest := []) rfl (c_X3_crashesAtBegin l Γ q x1 x2 hq σ_11 (v_14, σ_15) h_16) cy_X3_crashesAtBegin (x_recv K hB (hq.k).2 (ent_3 (hq.k).1) rfl) wd_25 ⟨rfl, rfl, Nat.le_of_ble_eq_true rfl, Nat.le_of_ble_eq_true rfl⟩ (Nat.le_of_ble_eq_true rfl) ⟨Nat.zero_le _, Nat.zero_le _⟩ dX3_crashesInTick_70) hB (fun H locs hB => ?_)
      replace hB : Bd Γ σ_15 s H locs := hB
      refine lv_if_eq (tgt := 78) M.1 M.2.1 dX3_crashesInTick_73 (by decide) (fun c_17 => ?_) (fun c_17 => ?_)
      · rw [if_pos c_17] at hr
        exact w_X3_crashesInTick_78 M K hq a0 a1  x1 _ _ _ _  hB (lv_sub hl [0, 1] rfl) hr
      · rw [if_neg c_17] at hr
        refine lv_iconst (v := 1) M.1 M.2.1 dX3_crashesInTick_76 (by decide) ?_
        exact x_zret M hB (nar_z (by decide)) (Option.some.inj hr) dX3_crashesInTick_77
def f_X3_crashesInTick_37 (q : Nat) (a0 : Int32) (a1 : Int32)  (x1 : Int32) (x2 : Int32) (s0 : Int32) (σ : Sg) : Option (Int32 × Sg) :=
if s0 = 0 ∨ s0 = 1 then
wb (st σ q 4 s0) fun σ_7 =>
f_X3_crashesInTick_40 q a0 a1  x1 x2 σ_7 else none
set_option maxHeartbeats 4000000 in
set_option maxRecDepth 100000 in
theorem w_X3_crashesInTick_37 {p : Program} {l : Launch} {e : Env} {s : State} {m : MethodId} {args : Array Value} {below : List Frame} {meth : Method} {c : Code} {Γ : GG} {res : Int32 × Sg} (M : MX RX3 cX3_crashesInTick 3 (some .boolean) p s m args meth c) (K : KK Γ s s.heap) {q : Nat} (hq : isT q) (a0 : Int32) (a1 : Int32) (x1 : Int32) (x2 : Int32) (s0 : Int32) (σ : Sg) (H : Heap) (locs : List Loc) (ls : Array Slot)  (hB : Bd Γ σ s H locs) (hl : lv_has ls 3 [(0, .ref (Γ.1 q)), (1, .int x1), (2, .int x2)]) (hr : f_X3_crashesInTick_37 q a0 a1  x1 x2 s0 σ = some res) : WI Γ rm_X3_crashesInTick p l e s m args below meth c H locs res (F0 m 37 ls [.int s0, .ref (Γ.1 q)]) := by
  unfold f_X3_crashesInTick_37 at hr
  obtain ⟨g_6, hr⟩ := gd2 hr
  obtain ⟨σ_7, e_8, hr⟩ := wbd hr
  refine x_putz3 M K hB (hq.k) 4 (by decide) wd_9 g_6 dX3_crashesInTick_37 (fun H locs hB => ?_)
  rw [← e_8] at hB
  exact w_X3_crashesInTick_40 M K hq a0 a1  x1 x2 _ _ _ _  hB (lv_sub hl [0, 1, 2] rfl) hr
def f_X3_crashesInTick_0 (q : Nat) (a0 : Int32) (a1 : Int32)   (σ : Sg) : Option (Int32 × Sg) :=
if σ q 4 = 0 then
f_X3_crashesInTick_40 q a0 a1  a0 a1 σ
else
if σ q 5 = 0 then
wb (st σ q 7 ((σ q 7) - 1)) fun σ_3 =>
if σ_3 q 7 ≤ 0 then
f_X3_crashesInTick_37 q a0 a1  a0 a1 0 σ_3
else
f_X3_crashesInTick_37 q a0 a1  a0 a1 1 σ_3
else
f_X3_crashesInTick_40 q a0 a1  a0 a1 σ
set_option maxHeartbeats 4000000 in
set_option maxRecDepth 100000 in
theorem w_X3_crashesInTick_0 {p : Program} {l : Launch} {e : Env} {s : State} {m : MethodId} {args : Array Value} {below : List Frame} {meth : Method} {c : Code} {Γ : GG} {res : Int32 × Sg} (M : MX RX3 cX3_crashesInTick 3 (some .boolean) p s m args meth c) (K : KK Γ s s.heap) {q : Nat} (hq : isT q) (a0 : Int32) (a1 : Int32)  (σ : Sg) (H : Heap) (locs : List Loc) (ls : Array Slot)  (hB : Bd Γ σ s H locs) (hl : lv_has ls 3 [(0, .ref (Γ.1 q)), (1, .int a0), (2, .int a1)]) (hr : f_X3_crashesInTick_0 q a0 a1   σ = some res) : WI Γ rm_X3_crashesInTick p l e s m args below meth c H locs res (F0 m 0 ls []) := by
  unfold f_X3_crashesInTick_0 at hr
  refine lv_aload_n M.1 M.2.1 dX3_crashesInTick_0 rfl (lv_at hl 0 rfl) ?_
  refine x_get3 M K hB (hq.k) 4 (by decide) wd_9 (v := .int (σ q 4)) rfl dX3_crashesInTick_1 ?_
  refine lv_if_eq (tgt := 40) M.1 M.2.1 dX3_crashesInTick_4 (by decide) (fun c_1 => ?_) (fun c_1 => ?_)
  · rw [if_pos c_1] at hr
    exact w_X3_crashesInTick_40 M K hq a0 a1  a0 a1 _ _ _ _  hB (lv_sub hl [0, 1, 2] rfl) hr
  · rw [if_neg c_1] at hr
    refine lv_aload_n M.1 M.2.1 dX3_crashesInTick_7 rfl (lv_at hl 0 rfl) ?_
    refine x_get3 M K hB (hq.k) 5 (by decide) wd_22 (v := .int (σ q 5)) rfl dX3_crashesInTick_8 ?_
    refine lv_if_ne (tgt := 40) M.1 M.2.1 dX3_crashesInTick_11 (by decide) (fun c_2 => ?_) (fun c_2 => ?_)
    · rw [if_neg c_2] at hr
      exact w_X3_crashesInTick_40 M K hq a0 a1  a0 a1 _ _ _ _  hB (lv_sub hl [0, 1, 2] rfl) hr
    · rw [if_pos c_2] at hr
      refine lv_aload_n M.1 M.2.1 dX3_crashesInTick_14 rfl (lv_at hl 0 rfl) ?_
      refine lv_dup M.1 M.2.1 dX3_crashesInTick_15 rfl ?_
      refine x_get3 M K hB (hq.k) 7 (by decide) wd_24 (v := .int (σ q 7)) rfl dX3_crashesInTick_16 ?_
      refine lv_iconst (v := 1) M.1 M.2.1 dX3_crashesInTick_19 (by decide) ?_
      refine lv_isub M.1 M.2.1 dX3_crashesInTick_20 ?_
      obtain ⟨σ_3, e_4, hr⟩ := wbd hr
      refine x_put3 M K hB (hq.k) 7 (by decide) wd_24 dX3_crashesInTick_21 (fun H locs hB => ?_)
      rw [← e_4] at hB
      refine lv_aload_n M.1 M.2.1 dX3_crashesInTick_24 rfl (lv_at hl 0 rfl) ?_
      refine lv_aload_n M.1 M.2.1 dX3_crashesInTick_25 rfl (lv_at hl 0 rfl) ?_
      refine x_get3 M K hB (hq.k) 7 (by decide) wd_24 (v := .int (σ_3 q 7)) rfl dX3_crashesInTick_26 ?_
      refine lv_if_le (tgt := 36) M.1 M.2.1 dX3_crashesInTick_29 (by decide) (fun c_5 => ?_) (fun c_5 => ?_)
      · rw [if_pos c_5] at hr
        refine lv_iconst (v := 0) M.1 M.2.1 dX3_crashesInTick_36 (by decide) ?_
        exact w_X3_crashesInTick_37 M K hq a0 a1  a0 a1 0 _ _ _ _  hB (lv_sub hl [0, 1, 2] rfl) hr
      · rw [if_neg c_5] at hr
        refine lv_iconst (v := 1) M.1 M.2.1 dX3_crashesInTick_32 (by decide) ?_
        refine lv_goto (tgt := 37) M.1 M.2.1 dX3_crashesInTick_33 (by decide) ?_
        exact w_X3_crashesInTick_37 M K hq a0 a1  a0 a1 1 _ _ _ _  hB (lv_sub hl [0, 1, 2] rfl) hr
theorem c_X3_crashesInTick (l : Launch) (Γ : GG) (q : Nat) (a0 : Int32) (a1 : Int32) (hq : isT q) (σ : Sg) (res : Int32 × Sg) (hr : f_X3_crashesInTick_0 q a0 a1 σ = some res) : Met l yX3_crashesInTick (Cond.code yX3_crashesInTick cX3_crashesInTick 3 (some .boolean) :: gtb) rm_X3_crashesInTick (va_Pc [.ref (Γ.1 q), .int a0, .int a1] (GI Γ σ)) (QI Γ res) 0 0 (AD Γ) :=
  x_metI (by decide) [.ref (Γ.1 q), .int a0, .int a1] (Nat.le_of_ble_eq_true rfl) (fun p e s m args below meth c M K ls hl hB => w_X3_crashesInTick_0 M K hq a0 a1 σ _ _ ls hB hl hr)
abbrev rm_X3_endCycle : Room := { frames := 1, cells := 0, slots := 0, locals := 22 }
def f_X3_endCycle_123 (q : Nat) (a0 : Int32)   (σ : Sg) : Option (Int32 × Sg) :=
wb (st σ q 8 0) fun σ_12 =>
wb (st σ_12 q 10 0) fun σ_14 =>
some (0, σ_14)
set_option maxHeartbeats 4000000 in
set_option maxRecDepth 100000 in
theorem w_X3_endCycle_123 {p : Program} {l : Launch} {e : Env} {s : State} {m : MethodId} {args : Array Value} {below : List Frame} {meth : Method} {c : Code} {Γ : GG} {res : Int32 × Sg} (M : MX RX3 cX3_endCycle 3 none p s m args meth c) (K : KK Γ s s.heap) {q : Nat} (hq : isT q) (a0 : Int32)  (σ : Sg) (H : Heap) (locs : List Loc) (ls : Array Slot)  (hB : Bd Γ σ s H locs) (hl : lv_has ls 3 [(0, .ref (Γ.1 q))]) (hr : f_X3_endCycle_123 q a0   σ = some res) : WV Γ rm_X3_endCycle p l e s m args below meth c H locs res (F0 m 123 ls []) := by
  unfold f_X3_endCycle_123 at hr
  refine lv_aload_n M.1 M.2.1 dX3_endCycle_123 rfl (lv_at hl 0 rfl) ?_
  refine lv_iconst (v := 0) M.1 M.2.1 dX3_endCycle_124 (by decide) ?_
  obtain ⟨σ_12, e_13, hr⟩ := wbd hr
  refine x_put3 M K hB (hq.k) 8 (by decide) wd_10 dX3_endCycle_125 (fun H locs hB => ?_)
  rw [← e_13] at hB
  refine lv_aload_n M.1 M.2.1 dX3_endCycle_128 rfl (lv_at hl 0 rfl) ?_
  refine lv_iconst (v := 0) M.1 M.2.1 dX3_endCycle_129 (by decide) ?_
  obtain ⟨σ_14, e_15, hr⟩ := wbd hr
  refine x_putz3 M K hB (hq.k) 10 (by decide) wd_12 (by decide) dX3_endCycle_130 (fun H locs hB => ?_)
  rw [← e_15] at hB
  exact x_vret M hB (Option.some.inj hr) dX3_endCycle_133
def f_X3_endCycle_115 (q : Nat) (a0 : Int32)  (s0 : Int32) (σ : Sg) : Option (Int32 × Sg) :=
wb (st σ q 14 s0) fun σ_22 =>
wb (st σ_22 q 13 1) fun σ_24 =>
f_X3_endCycle_123 q a0   σ_24
set_option maxHeartbeats 4000000 in
set_option maxRecDepth 100000 in
theorem w_X3_endCycle_115 {p : Program} {l : Launch} {e : Env} {s : State} {m : MethodId} {args : Array Value} {below : List Frame} {meth : Method} {c : Code} {Γ : GG} {res : Int32 × Sg} (M : MX RX3 cX3_endCycle 3 none p s m args meth c) (K : KK Γ s s.heap) {q : Nat} (hq : isT q) (a0 : Int32) (s0 : Int32) (σ : Sg) (H : Heap) (locs : List Loc) (ls : Array Slot)  (hB : Bd Γ σ s H locs) (hl : lv_has ls 3 [(0, .ref (Γ.1 q))]) (hr : f_X3_endCycle_115 q a0  s0 σ = some res) : WV Γ rm_X3_endCycle p l e s m args below meth c H locs res (F0 m 115 ls [.int s0, .ref (Γ.1 q)]) := by
  unfold f_X3_endCycle_115 at hr
  obtain ⟨σ_22, e_23, hr⟩ := wbd hr
  refine x_put3 M K hB (hq.k) 14 (by decide) wd_30 dX3_endCycle_115 (fun H locs hB => ?_)
  rw [← e_23] at hB
  refine lv_aload_n M.1 M.2.1 dX3_endCycle_118 rfl (lv_at hl 0 rfl) ?_
  refine lv_iconst (v := 1) M.1 M.2.1 dX3_endCycle_119 (by decide) ?_
  obtain ⟨σ_24, e_25, hr⟩ := wbd hr
  refine x_putz3 M K hB (hq.k) 13 (by decide) wd_15 (by decide) dX3_endCycle_120 (fun H locs hB => ?_)
  rw [← e_25] at hB
  exact w_X3_endCycle_123 M K hq a0   _ _ _ _  hB (lv_sub hl [0] rfl) hr
def f_X3_endCycle_86 (q : Nat) (a0 : Int32)  (x1 : Int32) (s0 : Int32) (σ : Sg) : Option (Int32 × Sg) :=
if s0 = 0 ∨ s0 = 1 then
wb (st σ q 11 s0) fun σ_17 =>
wb (st σ_17 q 12 ((σ_17 q 12) + 1)) fun σ_19 =>
if σ_19 q 13 = 0 then
f_X3_endCycle_115 q a0  x1 σ_19
else
f_X3_endCycle_115 q a0  (σ_19 q 14) σ_19 else none
set_option maxHeartbeats 4000000 in
set_option maxRecDepth 100000 in
theorem w_X3_endCycle_86 {p : Program} {l : Launch} {e : Env} {s : State} {m : MethodId} {args : Array Value} {below : List Frame} {meth : Method} {c : Code} {Γ : GG} {res : Int32 × Sg} (M : MX RX3 cX3_endCycle 3 none p s m args meth c) (K : KK Γ s s.heap) {q : Nat} (hq : isT q) (a0 : Int32) (x1 : Int32) (s0 : Int32) (σ : Sg) (H : Heap) (locs : List Loc) (ls : Array Slot)  (hB : Bd Γ σ s H locs) (hl : lv_has ls 3 [(0, .ref (Γ.1 q)), (1, .int x1)]) (hr : f_X3_endCycle_86 q a0  x1 s0 σ = some res) : WV Γ rm_X3_endCycle p l e s m args below meth c H locs res (F0 m 86 ls [.int s0, .ref (Γ.1 q)]) := by
  unfold f_X3_endCycle_86 at hr
  obtain ⟨g_16, hr⟩ := gd2 hr
  obtain ⟨σ_17, e_18, hr⟩ := wbd hr
  refine x_putz3 M K hB (hq.k) 11 (by decide) wd_13 g_16 dX3_endCycle_86 (fun H locs hB => ?_)
  rw [← e_18] at hB
  refine lv_aload_n M.1 M.2.1 dX3_endCycle_89 rfl (lv_at hl 0 rfl) ?_
  refine lv_dup M.1 M.2.1 dX3_endCycle_90 rfl ?_
  refine x_get3 M K hB (hq.k) 12 (by decide) wd_14 (v := .int (σ_17 q 12)) rfl dX3_endCycle_91 ?_
  refine lv_iconst (v := 1) M.1 M.2.1 dX3_endCycle_94 (by decide) ?_
  refine lv_iadd M.1 M.2.1 dX3_endCycle_95 ?_
  obtain ⟨σ_19, e_20, hr⟩ := wbd hr
  refine x_put3 M K hB (hq.k) 12 (by decide) wd_14 dX3_endCycle_96 (fun H locs hB => ?_)
  rw [← e_20] at hB
  refine lv_aload_n M.1 M.2.1 dX3_endCycle_99 rfl (lv_at hl 0 rfl) ?_
  refine lv_aload_n M.1 M.2.1 dX3_endCycle_100 rfl (lv_at hl 0 rfl) ?_
  refine x_get3 M K hB (hq.k) 13 (by decide) wd_15 (v := .int (σ_19 q 13)) rfl dX3_endCycle_101 ?_
  refine lv_if_eq (tgt := 114) M.1 M.2.1 dX3_endCycle_104 (by decide) (fun c_21 => ?_) (fun c_21 => ?_)
  · rw [if_pos c_21] at hr
    refine lv_iload_n M.1 M.2.1 dX3_endCycle_114 rfl (lv_at hl 1 rfl) ?_
    exact w_X3_endCycle_115 M K hq a0  x1 _ _ _ _  hB (lv_sub hl [0] rfl) hr
  · rw [if_neg c_21] at hr
    refine lv_aload_n M.1 M.2.1 dX3_endCycle_107 rfl (lv_at hl 0 rfl) ?_
    refine x_get3 M K hB (hq.k) 14 (by decide) wd_30 (v := .int (σ_19 q 14)) rfl dX3_endCycle_108 ?_
    refine lv_goto (tgt := 115) M.1 M.2.1 dX3_endCycle_111 (by decide) ?_
    exact w_X3_endCycle_115 M K hq a0  (σ_19 q 14) _ _ _ _  hB (lv_sub hl [0] rfl) hr
def f_X3_endCycle_34 (q : Nat) (a0 : Int32)  (x1 : Int32) (s0 : Int32) (σ : Sg) : Option (Int32 × Sg) :=
if s0 = 0 then
wb (st σ q 9 ((σ q 9) + 1)) fun σ_7 =>
if σ_7 q 9 ≤ σ_7 (q + 1) 6 then
f_X3_endCycle_86 q a0  x1 0 σ_7
else
f_X3_endCycle_86 q a0  x1 1 σ_7
else
wb (st σ q 9 (if 0 < (σ q 9) - 1 then (σ q 9) - 1 else 0)) fun σ_10 =>
f_X3_endCycle_123 q a0   σ_10
set_option maxHeartbeats 4000000 in
set_option maxRecDepth 100000 in
theorem w_X3_endCycle_34 {p : Program} {l : Launch} {e : Env} {s : State} {m : MethodId} {args : Array Value} {below : List Frame} {meth : Method} {c : Code} {Γ : GG} {res : Int32 × Sg} (M : MX RX3 cX3_endCycle 3 none p s m args meth c) (K : KK Γ s s.heap) {q : Nat} (hq : isT q) (a0 : Int32) (x1 : Int32) (s0 : Int32) (σ : Sg) (H : Heap) (locs : List Loc) (ls : Array Slot)  (hB : Bd Γ σ s H locs) (hl : lv_has ls 3 [(0, .ref (Γ.1 q)), (1, .int x1)]) (hr : f_X3_endCycle_34 q a0  x1 s0 σ = some res) : WV Γ rm_X3_endCycle p l e s m args below meth c H locs res (F0 m 34 ls [.int s0]) := by
  unfold f_X3_endCycle_34 at hr
  refine lv_istore_n (lv' := [(2, .int s0), (0, .ref (Γ.1 q)), (1, .int x1)]) M.1 M.2.1 dX3_endCycle_34 rfl hl (by decide) rfl (fun ls hl => ?_)
  refine lv_iload_n M.1 M.2.1 dX3_endCycle_35 rfl (lv_at hl 0 rfl) ?_
  refine lv_if_eq (tgt := 56) M.1 M.2.1 dX3_endCycle_36 (by decide) (fun c_6 => ?_) (fun c_6 => ?_)
  · rw [if_pos c_6] at hr
    refine lv_aload_n M.1 M.2.1 dX3_endCycle_56 rfl (lv_at hl 1 rfl) ?_
    refine lv_dup M.1 M.2.1 dX3_endCycle_57 rfl ?_
    refine x_get3 M K hB (hq.k) 9 (by decide) wd_11 (v := .int (σ q 9)) rfl dX3_endCycle_58 ?_
    refine lv_iconst (v := 1) M.1 M.2.1 dX3_endCycle_61 (by decide) ?_
    refine lv_iadd M.1 M.2.1 dX3_endCycle_62 ?_
    obtain ⟨σ_7, e_8, hr⟩ := wbd hr
    refine x_put3 M K hB (hq.k) 9 (by decide) wd_11 dX3_endCycle_63 (fun H locs hB => ?_)
    rw [← e_8] at hB
    refine lv_aload_n M.1 M.2.1 dX3_endCycle_66 rfl (lv_at hl 1 rfl) ?_
    refine lv_aload_n M.1 M.2.1 dX3_endCycle_67 rfl (lv_at hl 1 rfl) ?_
    refine x_get3 M K hB (hq.k) 9 (by decide) wd_11 (v := .int (σ_7 q 9)) rfl dX3_endCycle_68 ?_
    refine lv_aload_n M.1 M.2.1 dX3_endCycle_71 rfl (lv_at hl 1 rfl) ?_
    refine x_get3 M K hB (hq.k) 0 (by decide) wd_17 (v := .ref (Γ.1 (q + 1))) rfl dX3_endCycle_72 ?_
    refine lv_bipush (v := 6) M.1 M.2.1 dX3_endCycle_75 (by decide) ?_
    refine x_ialdL M K hB (hq.a1) (k := 6) (by decide) (by decide) dX3_endCycle_77 ?_
    refine lv_icmp_le (tgt := 85) M.1 M.2.1 dX3_endCycle_78 (by decide) (fun c_9 => ?_) (fun c_9 => ?_)
    · rw [if_pos c_9] at hr
      refine lv_iconst (v := 0) M.1 M.2.1 dX3_endCycle_85 (by decide) ?_
      exact w_X3_endCycle_86 M K hq a0  x1 0 _ _ _ _  hB (lv_sub hl [1, 2] rfl) hr
    · rw [if_neg c_9] at hr
      refine lv_iconst (v := 1) M.1 M.2.1 dX3_endCycle_81 (by decide) ?_
      refine lv_goto (tgt := 86) M.1 M.2.1 dX3_endCycle_82 (by decide) ?_
      exact w_X3_endCycle_86 M K hq a0  x1 1 _ _ _ _  hB (lv_sub hl [1, 2] rfl) hr
  · rw [if_neg c_6] at hr
    refine lv_aload_n M.1 M.2.1 dX3_endCycle_39 rfl (lv_at hl 1 rfl) ?_
    refine lv_iconst (v := 0) M.1 M.2.1 dX3_endCycle_40 (by decide) ?_
    refine lv_aload_n M.1 M.2.1 dX3_endCycle_41 rfl (lv_at hl 1 rfl) ?_
    refine x_get3 M K hB (hq.k) 9 (by decide) wd_11 (v := .int (σ q 9)) rfl dX3_endCycle_42 ?_
    refine lv_iconst (v := 1) M.1 M.2.1 dX3_endCycle_45 (by decide) ?_
    refine lv_isub M.1 M.2.1 dX3_endCycle_46 ?_
    refine x_max M hl.1 wd_26 wd_27 wd_28 wd_29 (Nat.le_of_ble_eq_true rfl) (Nat.le_of_ble_eq_true rfl) (Nat.zero_le _) (Nat.zero_le _) dX3_endCycle_47 ?_
    obtain ⟨σ_10, e_11, hr⟩ := wbd hr
    refine x_put3 M K hB (hq.k) 9 (by decide) wd_11 dX3_endCycle_50 (fun H locs hB => ?_)
    rw [← e_11] at hB
    refine lv_goto (tgt := 123) M.1 M.2.1 dX3_endCycle_53 (by decide) ?_
    exact w_X3_endCycle_123 M K hq a0   _ _ _ _  hB (lv_sub hl [1] rfl) hr
def f_X3_endCycle_33 (q : Nat) (a0 : Int32)  (x1 : Int32) (σ : Sg) : Option (Int32 × Sg) :=
f_X3_endCycle_34 q a0  x1 0 σ
set_option maxHeartbeats 4000000 in
set_option maxRecDepth 100000 in
theorem w_X3_endCycle_33 {p : Program} {l : Launch} {e : Env} {s : State} {m : MethodId} {args : Array Value} {below : List Frame} {meth : Method} {c : Code} {Γ : GG} {res : Int32 × Sg} (M : MX RX3 cX3_endCycle 3 none p s m args meth c) (K : KK Γ s s.heap) {q : Nat} (hq : isT q) (a0 : Int32) (x1 : Int32) (σ : Sg) (H : Heap) (locs : List Loc) (ls : Array Slot)  (hB : Bd Γ σ s H locs) (hl : lv_has ls 3 [(0, .ref (Γ.1 q)), (1, .int x1)]) (hr : f_X3_endCycle_33 q a0  x1 σ = some res) : WV Γ rm_X3_endCycle p l e s m args below meth c H locs res (F0 m 33 ls []) := by
  unfold f_X3_endCycle_33 at hr
  refine lv_iconst (v := 0) M.1 M.2.1 dX3_endCycle_33 (by decide) ?_
  exact w_X3_endCycle_34 M K hq a0  x1 0 _ _ _ _  hB (lv_sub hl [0, 1] rfl) hr
def f_X3_endCycle_0 (q : Nat) (a0 : Int32)   (σ : Sg) : Option (Int32 × Sg) :=
cb (f_X4_isWithin_0 (σ q 8) (σ (q + 1) 4) (σ (q + 1) 5) σ) fun v_1 σ_2 =>
if v_1 = 0 then
f_X3_endCycle_33 q a0  a0 σ_2
else
if σ_2 q 10 = 0 then
f_X3_endCycle_34 q a0  a0 1 σ_2
else
f_X3_endCycle_33 q a0  a0 σ_2
set_option maxHeartbeats 4000000 in
set_option maxRecDepth 100000 in
theorem w_X3_endCycle_0 {p : Program} {l : Launch} {e : Env} {s : State} {m : MethodId} {args : Array Value} {below : List Frame} {meth : Method} {c : Code} {Γ : GG} {res : Int32 × Sg} (M : MX RX3 cX3_endCycle 3 none p s m args meth c) (K : KK Γ s s.heap) {q : Nat} (hq : isT q) (a0 : Int32)  (σ : Sg) (H : Heap) (locs : List Loc) (ls : Array Slot)  (hB : Bd Γ σ s H locs) (hl : lv_has ls 3 [(0, .ref (Γ.1 q)), (1, .int a0)]) (hr : f_X3_endCycle_0 q a0   σ = some res) : WV Γ rm_X3_endCycle p l e s m args below meth c H locs res (F0 m 0 ls []) := by
  unfold f_X3_endCycle_0 at hr
  refine lv_aload_n M.1 M.2.1 dX3_endCycle_0 rfl (lv_at hl 0 rfl) ?_
  refine x_get3 M K hB (hq.k) 8 (by decide) wd_10 (v := .int (σ q 8)) rfl dX3_endCycle_1 ?_
  refine lv_aload_n M.1 M.2.1 dX3_endCycle_4 rfl (lv_at hl 0 rfl) ?_
  refine x_get3 M K hB (hq.k) 0 (by decide) wd_17 (v := .ref (Γ.1 (q + 1))) rfl dX3_endCycle_5 ?_
  refine lv_iconst (v := 4) M.1 M.2.1 dX3_endCycle_8 (by decide) ?_
  refine x_ialdL M K hB (hq.a1) (k := 4) (by decide) (by decide) dX3_endCycle_9 ?_
  refine lv_aload_n M.1 M.2.1 dX3_endCycle_10 rfl (lv_at hl 0 rfl) ?_
  refine x_get3 M K hB (hq.k) 0 (by decide) wd_17 (v := .ref (Γ.1 (q + 1))) rfl dX3_endCycle_11 ?_
  refine lv_iconst (v := 5) M.1 M.2.1 dX3_endCycle_14 (by decide) ?_
  refine x_ialdL M K hB (hq.a1) (k := 5) (by decide) (by decide) dX3_endCycle_15 ?_
  obtain ⟨v_1, σ_2, h_3, hr⟩ := cbd hr
  refine x_callI (x_runSN M K hB hl.1 [.int (σ q 8), .int (σ (q + 1) 4), .int (σ (q + 1) 5)] (rest := []) rfl (c_X4_isWithin l Γ (σ q 8) (σ (q + 1) 4) (σ (q + 1) 5)  σ (v_1, σ_2) h_3) cy_X4_isWithin nw_3 ⟨rfl, rfl, Nat.le_of_ble_eq_true rfl, Nat.le_of_ble_eq_true rfl⟩ (Nat.le_of_ble_eq_true rfl) ⟨Nat.zero_le _, Nat.zero_le _⟩ dX3_endCycle_16) hB (fun H locs hB => ?_)
  replace hB : Bd Γ σ_2 s H locs := hB
  refine lv_if_eq (tgt := 33) M.1 M.2.1 dX3_endCycle_19 (by decide) (fun c_4 => ?_) (fun c_4 => ?_)
  · rw [if_pos c_4] at hr
    exact w_X3_endCycle_33 M K hq a0  a0 _ _ _ _  hB (lv_sub hl [0, 1] rfl) hr
  · rw [if_neg c_4] at hr
    refine lv_aload_n M.1 M.2.1 dX3_endCycle_22 rfl (lv_at hl 0 rfl) ?_
    refine x_get3 M K hB (hq.k) 10 (by decide) wd_12 (v := .int (σ_2 q 10)) rfl dX3_endCycle_23 ?_
    refine lv_if_ne (tgt := 33) M.1 M.2.1 dX3_endCycle_26 (by decide) (fun c_5 => ?_) (fun c_5 => ?_)
    · rw [if_neg c_5] at hr
      exact w_X3_endCycle_33 M K hq a0  a0 _ _ _ _  hB (lv_sub hl [0, 1] rfl) hr
    · rw [if_pos c_5] at hr
      refine lv_iconst (v := 1) M.1 M.2.1 dX3_endCycle_29 (by decide) ?_
      refine lv_goto (tgt := 34) M.1 M.2.1 dX3_endCycle_30 (by decide) ?_
      exact w_X3_endCycle_34 M K hq a0  a0 1 _ _ _ _  hB (lv_sub hl [0, 1] rfl) hr
theorem c_X3_endCycle (l : Launch) (Γ : GG) (q : Nat) (a0 : Int32) (hq : isT q) (σ : Sg) (res : Int32 × Sg) (hr : f_X3_endCycle_0 q a0 σ = some res) : Met l yX3_endCycle (Cond.code yX3_endCycle cX3_endCycle 3 none :: gtb) rm_X3_endCycle (va_Pc [.ref (Γ.1 q), .int a0] (GI Γ σ)) (QV Γ res) 0 0 (AD Γ) :=
  x_metV (by decide) [.ref (Γ.1 q), .int a0] (Nat.le_of_ble_eq_true rfl) (fun p e s m args below meth c M K ls hl hB => w_X3_endCycle_0 M K hq a0 σ _ _ ls hB hl hr)
end
section
abbrev rm_X3_become : Room := { frames := 1, cells := 0, slots := 0, locals := 26 }
def f_X3_become_0 (q : Nat) (o0 : Nat)   (σ : Sg) : Option (Int32 × Sg) :=
wb (sr σ (q + 1) (va_cpy (σ (o0 + 1)) (σ (q + 1)) 0 0 8)) fun σ_1 =>
wb (sr σ_1 (q + 2) (va_cpy (σ_1 (o0 + 2)) (σ_1 (q + 2)) 0 0 2)) fun σ_3 =>
wb (sr σ_3 (q + 3) (va_cpy (σ_3 (o0 + 3)) (σ_3 (q + 3)) 0 0 2)) fun σ_5 =>
wb (sr σ_5 (q + 4) (va_cpy (σ_5 (o0 + 4)) (σ_5 (q + 4)) 0 0 2)) fun σ_7 =>
if σ_7 o0 4 = 0 ∨ σ_7 o0 4 = 1 then
wb (st σ_7 q 4 (σ_7 o0 4)) fun σ_10 =>
if σ_10 o0 5 = 0 ∨ σ_10 o0 5 = 1 then
wb (st σ_10 q 5 (σ_10 o0 5)) fun σ_13 =>
wb (st σ_13 q 6 (σ_13 o0 6)) fun σ_15 =>
wb (st σ_15 q 7 (σ_15 o0 7)) fun σ_17 =>
wb (st σ_17 q 8 (σ_17 o0 8)) fun σ_19 =>
wb (st σ_19 q 9 (σ_19 o0 9)) fun σ_21 =>
if σ_21 o0 10 = 0 ∨ σ_21 o0 10 = 1 then
wb (st σ_21 q 10 (σ_21 o0 10)) fun σ_24 =>
if σ_24 o0 11 = 0 ∨ σ_24 o0 11 = 1 then
wb (st σ_24 q 11 (σ_24 o0 11)) fun σ_27 =>
wb (st σ_27 q 12 (σ_27 o0 12)) fun σ_29 =>
if σ_29 o0 13 = 0 ∨ σ_29 o0 13 = 1 then
wb (st σ_29 q 13 (σ_29 o0 13)) fun σ_32 =>
wb (st σ_32 q 14 (σ_32 o0 14)) fun σ_34 =>
wb (st σ_34 q 15 (σ_34 o0 15)) fun σ_36 =>
some (0, σ_36) else none else none else none else none else none
set_option maxHeartbeats 4000000 in
set_option maxRecDepth 100000 in
theorem w_X3_become_0 {p : Program} {l : Launch} {e : Env} {s : State} {m : MethodId} {args : Array Value} {below : List Frame} {meth : Method} {c : Code} {Γ : GG} {res : Int32 × Sg} (M : MX RX3 cX3_become 2 none p s m args meth c) (K : KK Γ s s.heap) {q : Nat} (hq : isT q) {o0 : Nat} (ho0 : isT o0)  (σ : Sg) (H : Heap) (locs : List Loc) (ls : Array Slot)  (hB : Bd Γ σ s H locs) (hl : lv_has ls 2 [(0, .ref (Γ.1 q)), (1, .ref (Γ.1 o0))]) (hr : f_X3_become_0 q o0   σ = some res) : WV Γ rm_X3_become p l e s m args below meth c H locs res (F0 m 0 ls []) := by
  unfold f_X3_become_0 at hr
  refine lv_aload_n M.1 M.2.1 dX3_become_0 rfl (lv_at hl 1 rfl) ?_
  refine x_get3 M K hB (ho0.k) 0 (by decide) wd_17 (v := .ref (Γ.1 (o0 + 1))) rfl dX3_become_1 ?_
  refine lv_iconst (v := 0) M.1 M.2.1 dX3_become_4 (by decide) ?_
  refine lv_aload_n M.1 M.2.1 dX3_become_5 rfl (lv_at hl 0 rfl) ?_
  refine x_get3 M K hB (hq.k) 0 (by decide) wd_17 (v := .ref (Γ.1 (q + 1))) rfl dX3_become_6 ?_
  refine lv_iconst (v := 0) M.1 M.2.1 dX3_become_9 (by decide) ?_
  refine lv_bipush (v := 8) M.1 M.2.1 dX3_become_10 (by decide) ?_
  obtain ⟨σ_1, e_2, hr⟩ := wbd hr
  refine x_copy M K hB hl.1 (ho0.a1) (hq.a1) wd_18 wd_3 wd_4 wd_5 (by decide) (by decide) (by decide) (by decide) (by decide) (Nat.le_of_ble_eq_true rfl) (Nat.le_of_ble_eq_true rfl) dX3_become_12 (fun H locs hB => ?_)
  replace hB : Bd Γ (sr σ (q + 1) (va_cpy (σ (o0 + 1)) (σ (q + 1)) 0 0 8)) s H locs := hB
  rw [← e_2] at hB
  refine lv_aload_n M.1 M.2.1 dX3_become_15 rfl (lv_at hl 1 rfl) ?_
  refine x_get3 M K hB (ho0.k) 1 (by decide) wd_6 (v := .ref (Γ.1 (o0 + 2))) rfl dX3_become_16 ?_
  refine lv_iconst (v := 0) M.1 M.2.1 dX3_become_19 (by decide) ?_
  refine lv_aload_n M.1 M.2.1 dX3_become_20 rfl (lv_at hl 0 rfl) ?_
  refine x_get3 M K hB (hq.k) 1 (by decide) wd_6 (v := .ref (Γ.1 (q + 2))) rfl dX3_become_21 ?_
  refine lv_iconst (v := 0) M.1 M.2.1 dX3_become_24 (by decide) ?_
  refine lv_iconst (v := 2) M.1 M.2.1 dX3_become_25 (by decide) ?_
  obtain ⟨σ_3, e_4, hr⟩ := wbd hr
  refine x_copy M K hB hl.1 (ho0.a2) (hq.a2) wd_18 wd_3 wd_4 wd_5 (by decide) (by decide) (by decide) (by decide) (by decide) (Nat.le_of_ble_eq_true rfl) (Nat.le_of_ble_eq_true rfl) dX3_become_26 (fun H locs hB => ?_)
  replace hB : Bd Γ (sr σ_1 (q + 2) (va_cpy (σ_1 (o0 + 2)) (σ_1 (q + 2)) 0 0 2)) s H locs := hB
  rw [← e_4] at hB
  refine lv_aload_n M.1 M.2.1 dX3_become_29 rfl (lv_at hl 1 rfl) ?_
  refine x_get3 M K hB (ho0.k) 2 (by decide) wd_7 (v := .ref (Γ.1 (o0 + 3))) rfl dX3_become_30 ?_
  refine lv_iconst (v := 0) M.1 M.2.1 dX3_become_33 (by decide) ?_
  refine lv_aload_n M.1 M.2.1 dX3_become_34 rfl (lv_at hl 0 rfl) ?_
  refine x_get3 M K hB (hq.k) 2 (by decide) wd_7 (v := .ref (Γ.1 (q + 3))) rfl dX3_become_35 ?_
  refine lv_iconst (v := 0) M.1 M.2.1 dX3_become_38 (by decide) ?_
  refine lv_iconst (v := 2) M.1 M.2.1 dX3_become_39 (by decide) ?_
  obtain ⟨σ_5, e_6, hr⟩ := wbd hr
  refine x_copy M K hB hl.1 (ho0.a3) (hq.a3) wd_18 wd_3 wd_4 wd_5 (by decide) (by decide) (by decide) (by decide) (by decide) (Nat.le_of_ble_eq_true rfl) (Nat.le_of_ble_eq_true rfl) dX3_become_40 (fun H locs hB => ?_)
  replace hB : Bd Γ (sr σ_3 (q + 3) (va_cpy (σ_3 (o0 + 3)) (σ_3 (q + 3)) 0 0 2)) s H locs := hB
  rw [← e_6] at hB
  refine lv_aload_n M.1 M.2.1 dX3_become_43 rfl (lv_at hl 1 rfl) ?_
  refine x_get3 M K hB (ho0.k) 3 (by decide) wd_8 (v := .ref (Γ.1 (o0 + 4))) rfl dX3_become_44 ?_
  refine lv_iconst (v := 0) M.1 M.2.1 dX3_become_47 (by decide) ?_
  refine lv_aload_n M.1 M.2.1 dX3_become_48 rfl (lv_at hl 0 rfl) ?_
  refine x_get3 M K hB (hq.k) 3 (by decide) wd_8 (v := .ref (Γ.1 (q + 4))) rfl dX3_become_49 ?_
  refine lv_iconst (v := 0) M.1 M.2.1 dX3_become_52 (by decide) ?_
  refine lv_iconst (v := 2) M.1 M.2.1 dX3_become_53 (by decide) ?_
  obtain ⟨σ_7, e_8, hr⟩ := wbd hr
  refine x_copy M K hB hl.1 (ho0.a4) (hq.a4) wd_18 wd_3 wd_4 wd_5 (by decide) (by decide) (by decide) (by decide) (by decide) (Nat.le_of_ble_eq_true rfl) (Nat.le_of_ble_eq_true rfl) dX3_become_54 (fun H locs hB => ?_)
  replace hB : Bd Γ (sr σ_5 (q + 4) (va_cpy (σ_5 (o0 + 4)) (σ_5 (q + 4)) 0 0 2)) s H locs := hB
  rw [← e_8] at hB
  refine lv_aload_n M.1 M.2.1 dX3_become_57 rfl (lv_at hl 0 rfl) ?_
  refine lv_aload_n M.1 M.2.1 dX3_become_58 rfl (lv_at hl 1 rfl) ?_
  refine x_get3 M K hB (ho0.k) 4 (by decide) wd_9 (v := .int (σ_7 o0 4)) rfl dX3_become_59 ?_
  obtain ⟨g_9, hr⟩ := gd2 hr
  obtain ⟨σ_10, e_11, hr⟩ := wbd hr
  refine x_putz3 M K hB (hq.k) 4 (by decide) wd_9 g_9 dX3_become_62 (fun H locs hB => ?_)
  rw [← e_11] at hB
  refine lv_aload_n M.1 M.2.1 dX3_become_65 rfl (lv_at hl 0 rfl) ?_
  refine lv_aload_n M.1 M.2.1 dX3_become_66 rfl (lv_at hl 1 rfl) ?_
  refine x_get3 M K hB (ho0.k) 5 (by decide) wd_22 (v := .int (σ_10 o0 5)) rfl dX3_become_67 ?_
  obtain ⟨g_12, hr⟩ := gd2 hr
  obtain ⟨σ_13, e_14, hr⟩ := wbd hr
  refine x_putz3 M K hB (hq.k) 5 (by decide) wd_22 g_12 dX3_become_70 (fun H locs hB => ?_)
  rw [← e_14] at hB
  refine lv_aload_n M.1 M.2.1 dX3_become_73 rfl (lv_at hl 0 rfl) ?_
  refine lv_aload_n M.1 M.2.1 dX3_become_74 rfl (lv_at hl 1 rfl) ?_
  refine x_get3 M K hB (ho0.k) 6 (by decide) wd_23 (v := .int (σ_13 o0 6)) rfl dX3_become_75 ?_
  obtain ⟨σ_15, e_16, hr⟩ := wbd hr
  refine x_put3 M K hB (hq.k) 6 (by decide) wd_23 dX3_become_78 (fun H locs hB => ?_)
  rw [← e_16] at hB
  refine lv_aload_n M.1 M.2.1 dX3_become_81 rfl (lv_at hl 0 rfl) ?_
  refine lv_aload_n M.1 M.2.1 dX3_become_82 rfl (lv_at hl 1 rfl) ?_
  refine x_get3 M K hB (ho0.k) 7 (by decide) wd_24 (v := .int (σ_15 o0 7)) rfl dX3_become_83 ?_
  obtain ⟨σ_17, e_18, hr⟩ := wbd hr
  refine x_put3 M K hB (hq.k) 7 (by decide) wd_24 dX3_become_86 (fun H locs hB => ?_)
  rw [← e_18] at hB
  refine lv_aload_n M.1 M.2.1 dX3_become_89 rfl (lv_at hl 0 rfl) ?_
  refine lv_aload_n M.1 M.2.1 dX3_become_90 rfl (lv_at hl 1 rfl) ?_
  refine x_get3 M K hB (ho0.k) 8 (by decide) wd_10 (v := .int (σ_17 o0 8)) rfl dX3_become_91 ?_
  obtain ⟨σ_19, e_20, hr⟩ := wbd hr
  refine x_put3 M K hB (hq.k) 8 (by decide) wd_10 dX3_become_94 (fun H locs hB => ?_)
  rw [← e_20] at hB
  refine lv_aload_n M.1 M.2.1 dX3_become_97 rfl (lv_at hl 0 rfl) ?_
  refine lv_aload_n M.1 M.2.1 dX3_become_98 rfl (lv_at hl 1 rfl) ?_
  refine x_get3 M K hB (ho0.k) 9 (by decide) wd_11 (v := .int (σ_19 o0 9)) rfl dX3_become_99 ?_
  obtain ⟨σ_21, e_22, hr⟩ := wbd hr
  refine x_put3 M K hB (hq.k) 9 (by decide) wd_11 dX3_become_102 (fun H locs hB => ?_)
  rw [← e_22] at hB
  refine lv_aload_n M.1 M.2.1 dX3_become_105 rfl (lv_at hl 0 rfl) ?_
  refine lv_aload_n M.1 M.2.1 dX3_become_106 rfl (lv_at hl 1 rfl) ?_
  refine x_get3 M K hB (ho0.k) 10 (by decide) wd_12 (v := .int (σ_21 o0 10)) rfl dX3_become_107 ?_
  obtain ⟨g_23, hr⟩ := gd2 hr
  obtain ⟨σ_24, e_25, hr⟩ := wbd hr
  refine x_putz3 M K hB (hq.k) 10 (by decide) wd_12 g_23 dX3_become_110 (fun H locs hB => ?_)
  rw [← e_25] at hB
  refine lv_aload_n M.1 M.2.1 dX3_become_113 rfl (lv_at hl 0 rfl) ?_
  refine lv_aload_n M.1 M.2.1 dX3_become_114 rfl (lv_at hl 1 rfl) ?_
  refine x_get3 M K hB (ho0.k) 11 (by decide) wd_13 (v := .int (σ_24 o0 11)) rfl dX3_become_115 ?_
  obtain ⟨g_26, hr⟩ := gd2 hr
  obtain ⟨σ_27, e_28, hr⟩ := wbd hr
  refine x_putz3 M K hB (hq.k) 11 (by decide) wd_13 g_26 dX3_become_118 (fun H locs hB => ?_)
  rw [← e_28] at hB
  refine lv_aload_n M.1 M.2.1 dX3_become_121 rfl (lv_at hl 0 rfl) ?_
  refine lv_aload_n M.1 M.2.1 dX3_become_122 rfl (lv_at hl 1 rfl) ?_
  refine x_get3 M K hB (ho0.k) 12 (by decide) wd_14 (v := .int (σ_27 o0 12)) rfl dX3_become_123 ?_
  obtain ⟨σ_29, e_30, hr⟩ := wbd hr
  refine x_put3 M K hB (hq.k) 12 (by decide) wd_14 dX3_become_126 (fun H locs hB => ?_)
  rw [← e_30] at hB
  refine lv_aload_n M.1 M.2.1 dX3_become_129 rfl (lv_at hl 0 rfl) ?_
  refine lv_aload_n M.1 M.2.1 dX3_become_130 rfl (lv_at hl 1 rfl) ?_
  refine x_get3 M K hB (ho0.k) 13 (by decide) wd_15 (v := .int (σ_29 o0 13)) rfl dX3_become_131 ?_
  obtain ⟨g_31, hr⟩ := gd2 hr
  obtain ⟨σ_32, e_33, hr⟩ := wbd hr
  refine x_putz3 M K hB (hq.k) 13 (by decide) wd_15 g_31 dX3_become_134 (fun H locs hB => ?_)
  rw [← e_33] at hB
  refine lv_aload_n M.1 M.2.1 dX3_become_137 rfl (lv_at hl 0 rfl) ?_
  refine lv_aload_n M.1 M.2.1 dX3_become_138 rfl (lv_at hl 1 rfl) ?_
  refine x_get3 M K hB (ho0.k) 14 (by decide) wd_30 (v := .int (σ_32 o0 14)) rfl dX3_become_139 ?_
  obtain ⟨σ_34, e_35, hr⟩ := wbd hr
  refine x_put3 M K hB (hq.k) 14 (by decide) wd_30 dX3_become_142 (fun H locs hB => ?_)
  rw [← e_35] at hB
  refine lv_aload_n M.1 M.2.1 dX3_become_145 rfl (lv_at hl 0 rfl) ?_
  refine lv_aload_n M.1 M.2.1 dX3_become_146 rfl (lv_at hl 1 rfl) ?_
  refine x_get3 M K hB (ho0.k) 15 (by decide) wd_16 (v := .int (σ_34 o0 15)) rfl dX3_become_147 ?_
  obtain ⟨σ_36, e_37, hr⟩ := wbd hr
  refine x_put3 M K hB (hq.k) 15 (by decide) wd_16 dX3_become_150 (fun H locs hB => ?_)
  rw [← e_37] at hB
  exact x_vret M hB (Option.some.inj hr) dX3_become_153
theorem c_X3_become (l : Launch) (Γ : GG) (q : Nat) (o0 : Nat) (hq : isT q) (ho0 : isT o0) (σ : Sg) (res : Int32 × Sg) (hr : f_X3_become_0 q o0 σ = some res) : Met l yX3_become (Cond.code yX3_become cX3_become 2 none :: gtb) rm_X3_become (va_Pc [.ref (Γ.1 q), .ref (Γ.1 o0)] (GI Γ σ)) (QV Γ res) 0 0 (AD Γ) :=
  x_metV (by decide) [.ref (Γ.1 q), .ref (Γ.1 o0)] (Nat.le_of_ble_eq_true rfl) (fun p e s m args below meth c M K ls hl hB => w_X3_become_0 M K hq ho0 σ _ _ ls hB hl hr)
abbrev rm_X3_momentary : Room := { frames := 0, cells := 0, slots := 0, locals := 0 }
def f_X3_momentary_107 (q : Nat) (a0 : Int32)  (s0 : Int32) (σ : Sg) : Option (Int32 × Sg) :=
some (s0, σ)
set_option maxHeartbeats 4000000 in
set_option maxRecDepth 100000 in
theorem w_X3_momentary_107 {p : Program} {l : Launch} {e : Env} {s : State} {m : MethodId} {args : Array Value} {below : List Frame} {meth : Method} {c : Code} {Γ : GG} {res : Int32 × Sg} (M : MX RX3 cX3_momentary 2 (some .int) p s m args meth c) (K : KK Γ s s.heap) {q : Nat} (hq : isT q) (a0 : Int32) (s0 : Int32) (σ : Sg) (H : Heap) (locs : List Loc) (ls : Array Slot)  (hB : Bd Γ σ s H locs) (hl : lv_has ls 2 []) (hr : f_X3_momentary_107 q a0  s0 σ = some res) : WI Γ rm_X3_momentary p l e s m args below meth c H locs res (F0 m 107 ls [.int s0]) := by
  unfold f_X3_momentary_107 at hr
  exact x_iret M hB (Option.some.inj hr) dX3_momentary_107
def f_X3_momentary_94 (q : Nat) (a0 : Int32)  (s0 : Int32) (σ : Sg) : Option (Int32 × Sg) :=
some (s0, σ)
set_option maxHeartbeats 4000000 in
set_option maxRecDepth 100000 in
theorem w_X3_momentary_94 {p : Program} {l : Launch} {e : Env} {s : State} {m : MethodId} {args : Array Value} {below : List Frame} {meth : Method} {c : Code} {Γ : GG} {res : Int32 × Sg} (M : MX RX3 cX3_momentary 2 (some .int) p s m args meth c) (K : KK Γ s s.heap) {q : Nat} (hq : isT q) (a0 : Int32) (s0 : Int32) (σ : Sg) (H : Heap) (locs : List Loc) (ls : Array Slot)  (hB : Bd Γ σ s H locs) (hl : lv_has ls 2 []) (hr : f_X3_momentary_94 q a0  s0 σ = some res) : WI Γ rm_X3_momentary p l e s m args below meth c H locs res (F0 m 94 ls [.int s0]) := by
  unfold f_X3_momentary_94 at hr
  exact x_iret M hB (Option.some.inj hr) dX3_momentary_94
def f_X3_momentary_71 (q : Nat) (a0 : Int32)  (s0 : Int32) (σ : Sg) : Option (Int32 × Sg) :=
some (s0, σ)
set_option maxHeartbeats 4000000 in
set_option maxRecDepth 100000 in
theorem w_X3_momentary_71 {p : Program} {l : Launch} {e : Env} {s : State} {m : MethodId} {args : Array Value} {below : List Frame} {meth : Method} {c : Code} {Γ : GG} {res : Int32 × Sg} (M : MX RX3 cX3_momentary 2 (some .int) p s m args meth c) (K : KK Γ s s.heap) {q : Nat} (hq : isT q) (a0 : Int32) (s0 : Int32) (σ : Sg) (H : Heap) (locs : List Loc) (ls : Array Slot)  (hB : Bd Γ σ s H locs) (hl : lv_has ls 2 []) (hr : f_X3_momentary_71 q a0  s0 σ = some res) : WI Γ rm_X3_momentary p l e s m args below meth c H locs res (F0 m 71 ls [.int s0]) := by
  unfold f_X3_momentary_71 at hr
  exact x_iret M hB (Option.some.inj hr) dX3_momentary_71
def f_X3_momentary_70 (q : Nat) (a0 : Int32)   (σ : Sg) : Option (Int32 × Sg) :=
f_X3_momentary_71 q a0  0 σ
set_option maxHeartbeats 4000000 in
set_option maxRecDepth 100000 in
theorem w_X3_momentary_70 {p : Program} {l : Launch} {e : Env} {s : State} {m : MethodId} {args : Array Value} {below : List Frame} {meth : Method} {c : Code} {Γ : GG} {res : Int32 × Sg} (M : MX RX3 cX3_momentary 2 (some .int) p s m args meth c) (K : KK Γ s s.heap) {q : Nat} (hq : isT q) (a0 : Int32)  (σ : Sg) (H : Heap) (locs : List Loc) (ls : Array Slot)  (hB : Bd Γ σ s H locs) (hl : lv_has ls 2 []) (hr : f_X3_momentary_70 q a0   σ = some res) : WI Γ rm_X3_momentary p l e s m args below meth c H locs res (F0 m 70 ls []) := by
  unfold f_X3_momentary_70 at hr
  refine lv_iconst (v := 0) M.1 M.2.1 dX3_momentary_70 (by decide) ?_
  exact w_X3_momentary_71 M K hq a0  0 _ _ _ _  hB (lv_sub hl [] rfl) hr
def f_X3_momentary_48 (q : Nat) (a0 : Int32)  (s0 : Int32) (σ : Sg) : Option (Int32 × Sg) :=
some (s0, σ)
set_option maxHeartbeats 4000000 in
set_option maxRecDepth 100000 in
theorem w_X3_momentary_48 {p : Program} {l : Launch} {e : Env} {s : State} {m : MethodId} {args : Array Value} {below : List Frame} {meth : Method} {c : Code} {Γ : GG} {res : Int32 × Sg} (M : MX RX3 cX3_momentary 2 (some .int) p s m args meth c) (K : KK Γ s s.heap) {q : Nat} (hq : isT q) (a0 : Int32) (s0 : Int32) (σ : Sg) (H : Heap) (locs : List Loc) (ls : Array Slot)  (hB : Bd Γ σ s H locs) (hl : lv_has ls 2 []) (hr : f_X3_momentary_48 q a0  s0 σ = some res) : WI Γ rm_X3_momentary p l e s m args below meth c H locs res (F0 m 48 ls [.int s0]) := by
  unfold f_X3_momentary_48 at hr
  exact x_iret M hB (Option.some.inj hr) dX3_momentary_48
def f_X3_momentary_0 (q : Nat) (a0 : Int32)   (σ : Sg) : Option (Int32 × Sg) :=
if a0 = 8 then
if σ q 4 = 0 then
f_X3_momentary_48 q a0  0 σ
else
f_X3_momentary_48 q a0  1 σ
else
if a0 = 9 then
if σ q 4 = 0 then
f_X3_momentary_70 q a0   σ
else
if σ q 5 = 0 then
f_X3_momentary_71 q a0  (σ q 7) σ
else
f_X3_momentary_70 q a0   σ
else
if a0 = 10 then
some (σ q 8, σ)
else
if a0 = 11 then
some (σ q 9, σ)
else
if a0 = 12 then
if σ q 10 = 0 then
f_X3_momentary_94 q a0  0 σ
else
f_X3_momentary_94 q a0  1 σ
else
if σ q 11 = 0 then
f_X3_momentary_107 q a0  0 σ
else
f_X3_momentary_107 q a0  1 σ
set_option maxHeartbeats 4000000 in
set_option maxRecDepth 100000 in
theorem w_X3_momentary_0 {p : Program} {l : Launch} {e : Env} {s : State} {m : MethodId} {args : Array Value} {below : List Frame} {meth : Method} {c : Code} {Γ : GG} {res : Int32 × Sg} (M : MX RX3 cX3_momentary 2 (some .int) p s m args meth c) (K : KK Γ s s.heap) {q : Nat} (hq : isT q) (a0 : Int32)  (σ : Sg) (H : Heap) (locs : List Loc) (ls : Array Slot)  (hB : Bd Γ σ s H locs) (hl : lv_has ls 2 [(0, .ref (Γ.1 q)), (1, .int a0)]) (hr : f_X3_momentary_0 q a0   σ = some res) : WI Γ rm_X3_momentary p l e s m args below meth c H locs res (F0 m 0 ls []) := by
  unfold f_X3_momentary_0 at hr
  refine lv_iload_n M.1 M.2.1 dX3_momentary_0 rfl (lv_at hl 1 rfl) ?_
  by_cases c_1 : a0 = 8
  · rw [if_pos c_1] at hr
    have t_2 : Int32.toInt a0 = 8 := by rw [c_1]; decide
    refine lv_tableIn (off := 35) (tgt := 36) M.1 M.2.1 dX3_momentary_1 (by rw [t_2]; decide) (by rw [t_2]; decide) (by rw [t_2]; rfl) (by decide) ?_
    refine lv_aload_n M.1 M.2.1 dX3_momentary_36 rfl (lv_at hl 0 rfl) ?_
    refine x_get3 M K hB (hq.k) 4 (by decide) wd_9 (v := .int (σ q 4)) rfl dX3_momentary_37 ?_
    refine lv_if_eq (tgt := 47) M.1 M.2.1 dX3_momentary_40 (by decide) (fun c_3 => ?_) (fun c_3 => ?_)
    · rw [if_pos c_3] at hr
      refine lv_iconst (v := 0) M.1 M.2.1 dX3_momentary_47 (by decide) ?_
      exact w_X3_momentary_48 M K hq a0  0 _ _ _ _  hB (lv_sub hl [] rfl) hr
    · rw [if_neg c_3] at hr
      refine lv_iconst (v := 1) M.1 M.2.1 dX3_momentary_43 (by decide) ?_
      refine lv_goto (tgt := 48) M.1 M.2.1 dX3_momentary_44 (by decide) ?_
      exact w_X3_momentary_48 M K hq a0  1 _ _ _ _  hB (lv_sub hl [] rfl) hr
  · rw [if_neg c_1] at hr
    have t_2 : ¬ Int32.toInt a0 = 8 := lv_neT c_1 (by decide)
    by_cases c_4 : a0 = 9
    · rw [if_pos c_4] at hr
      have t_5 : Int32.toInt a0 = 9 := by rw [c_4]; decide
      refine lv_tableIn (off := 48) (tgt := 49) M.1 M.2.1 dX3_momentary_1 (by rw [t_5]; decide) (by rw [t_5]; decide) (by rw [t_5]; rfl) (by decide) ?_
      refine lv_aload_n M.1 M.2.1 dX3_momentary_49 rfl (lv_at hl 0 rfl) ?_
      refine x_get3 M K hB (hq.k) 4 (by decide) wd_9 (v := .int (σ q 4)) rfl dX3_momentary_50 ?_
      refine lv_if_eq (tgt := 70) M.1 M.2.1 dX3_momentary_53 (by decide) (fun c_6 => ?_) (fun c_6 => ?_)
      · rw [if_pos c_6] at hr
        exact w_X3_momentary_70 M K hq a0   _ _ _ _  hB (lv_sub hl [] rfl) hr
      · rw [if_neg c_6] at hr
        refine lv_aload_n M.1 M.2.1 dX3_momentary_56 rfl (lv_at hl 0 rfl) ?_
        refine x_get3 M K hB (hq.k) 5 (by decide) wd_22 (v := .int (σ q 5)) rfl dX3_momentary_57 ?_
        refine lv_if_ne (tgt := 70) M.1 M.2.1 dX3_momentary_60 (by decide) (fun c_7 => ?_) (fun c_7 => ?_)
        · rw [if_neg c_7] at hr
          exact w_X3_momentary_70 M K hq a0   _ _ _ _  hB (lv_sub hl [] rfl) hr
        · rw [if_pos c_7] at hr
          refine lv_aload_n M.1 M.2.1 dX3_momentary_63 rfl (lv_at hl 0 rfl) ?_
          refine x_get3 M K hB (hq.k) 7 (by decide) wd_24 (v := .int (σ q 7)) rfl dX3_momentary_64 ?_
          refine lv_goto (tgt := 71) M.1 M.2.1 dX3_momentary_67 (by decide) ?_
          exact w_X3_momentary_71 M K hq a0  (σ q 7) _ _ _ _  hB (lv_sub hl [] rfl) hr
    · rw [if_neg c_4] at hr
      have t_5 : ¬ Int32.toInt a0 = 9 := lv_neT c_4 (by decide)
      by_cases c_8 : a0 = 10
      · rw [if_pos c_8] at hr
        have t_9 : Int32.toInt a0 = 10 := by rw [c_8]; decide
        refine lv_tableIn (off := 71) (tgt := 72) M.1 M.2.1 dX3_momentary_1 (by rw [t_9]; decide) (by rw [t_9]; decide) (by rw [t_9]; rfl) (by decide) ?_
        refine lv_aload_n M.1 M.2.1 dX3_momentary_72 rfl (lv_at hl 0 rfl) ?_
        refine x_get3 M K hB (hq.k) 8 (by decide) wd_10 (v := .int (σ q 8)) rfl dX3_momentary_73 ?_
        exact x_iret M hB (Option.some.inj hr) dX3_momentary_76
      · rw [if_neg c_8] at hr
        have t_9 : ¬ Int32.toInt a0 = 10 := lv_neT c_8 (by decide)
        by_cases c_10 : a0 = 11
        · rw [if_pos c_10] at hr
          have t_11 : Int32.toInt a0 = 11 := by rw [c_10]; decide
          refine lv_tableIn (off := 76) (tgt := 77) M.1 M.2.1 dX3_momentary_1 (by rw [t_11]; decide) (by rw [t_11]; decide) (by rw [t_11]; rfl) (by decide) ?_
          refine lv_aload_n M.1 M.2.1 dX3_momentary_77 rfl (lv_at hl 0 rfl) ?_
          refine x_get3 M K hB (hq.k) 9 (by decide) wd_11 (v := .int (σ q 9)) rfl dX3_momentary_78 ?_
          exact x_iret M hB (Option.some.inj hr) dX3_momentary_81
        · rw [if_neg c_10] at hr
          have t_11 : ¬ Int32.toInt a0 = 11 := lv_neT c_10 (by decide)
          by_cases c_12 : a0 = 12
          · rw [if_pos c_12] at hr
            have t_13 : Int32.toInt a0 = 12 := by rw [c_12]; decide
            refine lv_tableIn (off := 81) (tgt := 82) M.1 M.2.1 dX3_momentary_1 (by rw [t_13]; decide) (by rw [t_13]; decide) (by rw [t_13]; rfl) (by decide) ?_
            refine lv_aload_n M.1 M.2.1 dX3_momentary_82 rfl (lv_at hl 0 rfl) ?_
            refine x_get3 M K hB (hq.k) 10 (by decide) wd_12 (v := .int (σ q 10)) rfl dX3_momentary_83 ?_
            refine lv_if_eq (tgt := 93) M.1 M.2.1 dX3_momentary_86 (by decide) (fun c_14 => ?_) (fun c_14 => ?_)
            · rw [if_pos c_14] at hr
              refine lv_iconst (v := 0) M.1 M.2.1 dX3_momentary_93 (by decide) ?_
              exact w_X3_momentary_94 M K hq a0  0 _ _ _ _  hB (lv_sub hl [] rfl) hr
            · rw [if_neg c_14] at hr
              refine lv_iconst (v := 1) M.1 M.2.1 dX3_momentary_89 (by decide) ?_
              refine lv_goto (tgt := 94) M.1 M.2.1 dX3_momentary_90 (by decide) ?_
              exact w_X3_momentary_94 M K hq a0  1 _ _ _ _  hB (lv_sub hl [] rfl) hr
          · rw [if_neg c_12] at hr
            have t_13 : ¬ Int32.toInt a0 = 12 := lv_neT c_12 (by decide)
            refine lv_tableOut (tgt := 95) M.1 M.2.1 dX3_momentary_1 (by omega) (by decide) ?_
            refine lv_aload_n M.1 M.2.1 dX3_momentary_95 rfl (lv_at hl 0 rfl) ?_
            refine x_get3 M K hB (hq.k) 11 (by decide) wd_13 (v := .int (σ q 11)) rfl dX3_momentary_96 ?_
            refine lv_if_eq (tgt := 106) M.1 M.2.1 dX3_momentary_99 (by decide) (fun c_15 => ?_) (fun c_15 => ?_)
            · rw [if_pos c_15] at hr
              refine lv_iconst (v := 0) M.1 M.2.1 dX3_momentary_106 (by decide) ?_
              exact w_X3_momentary_107 M K hq a0  0 _ _ _ _  hB (lv_sub hl [] rfl) hr
            · rw [if_neg c_15] at hr
              refine lv_iconst (v := 1) M.1 M.2.1 dX3_momentary_102 (by decide) ?_
              refine lv_goto (tgt := 107) M.1 M.2.1 dX3_momentary_103 (by decide) ?_
              exact w_X3_momentary_107 M K hq a0  1 _ _ _ _  hB (lv_sub hl [] rfl) hr
theorem c_X3_momentary (l : Launch) (Γ : GG) (q : Nat) (a0 : Int32) (hq : isT q) (σ : Sg) (res : Int32 × Sg) (hr : f_X3_momentary_0 q a0 σ = some res) : Met l yX3_momentary (Cond.code yX3_momentary cX3_momentary 2 (some .int) :: gtb) rm_X3_momentary (va_Pc [.ref (Γ.1 q), .int a0] (GI Γ σ)) (QI Γ res) 0 0 (AD Γ) :=
  x_metI (by decide) [.ref (Γ.1 q), .int a0] (Nat.le_of_ble_eq_true rfl) (fun p e s m args below meth c M K ls hl hB => w_X3_momentary_0 M K hq a0 σ _ _ ls hB hl hr)
abbrev rm_X0_tickBooting : Room := { frames := 1, cells := 0, slots := 0, locals := 20 }
def f_X0_tickBooting_45 (q : Nat)  : Nat → Int32 → Sg → Option (Int32 × Sg)
  | 0, _, _ => none
  | f + 1, x1, σ => if σ q 3 ≤ x1 then
some (0, σ)
else
if x1 < 0 ∨ 6 ≤ x1.toNatClampNeg then none else
cb (f_X3_beginRun_0 (q + 2 + 3 + 5 * x1.toNatClampNeg) σ) fun v_16 σ_17 =>
f_X0_tickBooting_45 q  f (x1 + 1) σ_17
set_option maxHeartbeats 4000000 in
set_option maxRecDepth 100000 in
theorem w_X0_tickBooting_45 {p : Program} {l : Launch} {e : Env} {s : State} {m : MethodId} {args : Array Value} {below : List Frame} {meth : Method} {c : Code} {Γ : GG} {res : Int32 × Sg} (M : MX RX0 cX0_tickBooting 2 none p s m args meth c) (K : KK Γ s s.heap) {q : Nat} (hq : isB q) : ∀ (f : Nat) (x1 : Int32) (σ : Sg) (H : Heap) (locs : List Loc) (ls : Array Slot)  (hB : Bd Γ σ s H locs) (hl : lv_has ls 2 [(0, .ref (Γ.1 q)), (1, .int x1)]) (hr : f_X0_tickBooting_45 q  f x1 σ = some res), WV Γ rm_X0_tickBooting p l e s m args below meth c H locs res (F0 m 45 ls []) := by
  intro f
  induction f with
  | zero => intros; rename_i hr; exact absurd hr (by rw [f_X0_tickBooting_45]; exact fun h => by cases h)
  | succ f ih_45 =>
    intro x1 σ H locs ls  hB hl hr
    rw [f_X0_tickBooting_45] at hr
    refine lv_iload_n M.1 M.2.1 dX0_tickBooting_45 rfl (lv_at hl 1 rfl) ?_
    refine lv_aload_n M.1 M.2.1 dX0_tickBooting_46 rfl (lv_at hl 0 rfl) ?_
    refine x_get0 M K hB (hq.k) 3 (by decide) wd_37 (v := .int (σ q 3)) rfl dX0_tickBooting_47 ?_
    refine lv_icmp_ge (tgt := 68) M.1 M.2.1 dX0_tickBooting_50 (by decide) (fun c_14 => ?_) (fun c_14 => ?_)
    · rw [if_pos c_14] at hr
      exact x_vret M hB (Option.some.inj hr) dX0_tickBooting_68
    · rw [if_neg c_14] at hr
      refine lv_aload_n M.1 M.2.1 dX0_tickBooting_53 rfl (lv_at hl 0 rfl) ?_
      refine x_get0 M K hB (hq.k) 1 (by decide) wd_38 (v := .ref (Γ.1 (q + 2))) rfl dX0_tickBooting_54 ?_
      refine lv_iload_n M.1 M.2.1 dX0_tickBooting_57 rfl (lv_at hl 1 rfl) ?_
      obtain ⟨g_15, hr⟩ := gd hr
      refine x_aaldT M K hB (hq.k2) g_15 dX0_tickBooting_58 ?_
      obtain ⟨v_16, σ_17, h_18, hr⟩ := cbd hr
      refine x_callV (x_runV M K hB hl.1 [] (rest := []) rfl (c_X3_beginRun l Γ (q + 2 + 3 + 5 * x1.toNatClampNeg) (isB.t hq (vp_lt g_15)) σ (v_16, σ_17) h_18) cy_X3_beginRun (x_recv K hB ((isB.t hq (vp_lt g_15)).k).2 (ent_3 ((isB.t hq (vp_lt g_15)).k).1) rfl) wd_39 ⟨rfl, rfl, Nat.le_of_ble_eq_true rfl, Nat.le_of_ble_eq_true rfl⟩ (Nat.le_of_ble_eq_true rfl) ⟨Nat.zero_le _, Nat.zero_le _⟩ dX0_tickBooting_59) hB (fun H locs hB => ?_)
      replace hB : Bd Γ σ_17 s H locs := hB
      refine lv_iinc (v := x1 + 1) (lv' := [(1, .int (x1 + 1)), (0, .ref (Γ.1 q))]) M.1 M.2.1 dX0_tickBooting_62 hl (k := 1) rfl rfl (by decide) rfl (fun ls hl => ?_)
      refine lv_goto (tgt := 45) M.1 M.2.1 dX0_tickBooting_65 (by decide) ?_
      exact ih_45 (x1 + 1) _ _ _ _  hB (lv_sub hl [1, 0] rfl) hr
def f_X0_tickBooting_0 (q : Nat)   (σ : Sg) : Option (Int32 × Sg) :=
wb (st σ q 8 ((σ q 8) - 1)) fun σ_1 =>
if σ_1 q 8 ≤ 0 then
wb (st σ_1 q 5 1) fun σ_4 =>
wb (st σ_4 q 9 0) fun σ_6 =>
wb (st σ_6 q 10 0) fun σ_8 =>
wb (st σ_8 q 11 0) fun σ_10 =>
wb (st σ_10 q 12 0) fun σ_12 =>
f_X0_tickBooting_45 q  FU 0 σ_12
else
some (0, σ_1)
set_option maxHeartbeats 4000000 in
set_option maxRecDepth 100000 in
theorem w_X0_tickBooting_0 {p : Program} {l : Launch} {e : Env} {s : State} {m : MethodId} {args : Array Value} {below : List Frame} {meth : Method} {c : Code} {Γ : GG} {res : Int32 × Sg} (M : MX RX0 cX0_tickBooting 2 none p s m args meth c) (K : KK Γ s s.heap) {q : Nat} (hq : isB q)  (σ : Sg) (H : Heap) (locs : List Loc) (ls : Array Slot)  (hB : Bd Γ σ s H locs) (hl : lv_has ls 2 [(0, .ref (Γ.1 q))]) (hr : f_X0_tickBooting_0 q   σ = some res) : WV Γ rm_X0_tickBooting p l e s m args below meth c H locs res (F0 m 0 ls []) := by
  unfold f_X0_tickBooting_0 at hr
  refine lv_aload_n M.1 M.2.1 dX0_tickBooting_0 rfl (lv_at hl 0 rfl) ?_
  refine lv_dup M.1 M.2.1 dX0_tickBooting_1 rfl ?_
  refine x_get0 M K hB (hq.k) 8 (by decide) wd_31 (v := .int (σ q 8)) rfl dX0_tickBooting_2 ?_
  refine lv_iconst (v := 1) M.1 M.2.1 dX0_tickBooting_5 (by decide) ?_
  refine lv_isub M.1 M.2.1 dX0_tickBooting_6 ?_
  obtain ⟨σ_1, e_2, hr⟩ := wbd hr
  refine x_put0 M K hB (hq.k) 8 (by decide) wd_31 dX0_tickBooting_7 (fun H locs hB => ?_)
  rw [← e_2] at hB
  refine lv_aload_n M.1 M.2.1 dX0_tickBooting_10 rfl (lv_at hl 0 rfl) ?_
  refine x_get0 M K hB (hq.k) 8 (by decide) wd_31 (v := .int (σ_1 q 8)) rfl dX0_tickBooting_11 ?_
  refine lv_if_le (tgt := 18) M.1 M.2.1 dX0_tickBooting_14 (by decide) (fun c_3 => ?_) (fun c_3 => ?_)
  · rw [if_pos c_3] at hr
    refine lv_aload_n M.1 M.2.1 dX0_tickBooting_18 rfl (lv_at hl 0 rfl) ?_
    refine lv_iconst (v := 1) M.1 M.2.1 dX0_tickBooting_19 (by decide) ?_
    obtain ⟨σ_4, e_5, hr⟩ := wbd hr
    refine x_put0 M K hB (hq.k) 5 (by decide) wd_32 dX0_tickBooting_20 (fun H locs hB => ?_)
    rw [← e_5] at hB
    refine lv_aload_n M.1 M.2.1 dX0_tickBooting_23 rfl (lv_at hl 0 rfl) ?_
    refine lv_iconst (v := 0) M.1 M.2.1 dX0_tickBooting_24 (by decide) ?_
    obtain ⟨σ_6, e_7, hr⟩ := wbd hr
    refine x_put0 M K hB (hq.k) 9 (by decide) wd_33 dX0_tickBooting_25 (fun H locs hB => ?_)
    rw [← e_7] at hB
    refine lv_aload_n M.1 M.2.1 dX0_tickBooting_28 rfl (lv_at hl 0 rfl) ?_
    refine lv_iconst (v := 0) M.1 M.2.1 dX0_tickBooting_29 (by decide) ?_
    obtain ⟨σ_8, e_9, hr⟩ := wbd hr
    refine x_put0 M K hB (hq.k) 10 (by decide) wd_34 dX0_tickBooting_30 (fun H locs hB => ?_)
    rw [← e_9] at hB
    refine lv_aload_n M.1 M.2.1 dX0_tickBooting_33 rfl (lv_at hl 0 rfl) ?_
    refine lv_iconst (v := 0) M.1 M.2.1 dX0_tickBooting_34 (by decide) ?_
    obtain ⟨σ_10, e_11, hr⟩ := wbd hr
    refine x_put0 M K hB (hq.k) 11 (by decide) wd_35 dX0_tickBooting_35 (fun H locs hB => ?_)
    rw [← e_11] at hB
    refine lv_aload_n M.1 M.2.1 dX0_tickBooting_38 rfl (lv_at hl 0 rfl) ?_
    refine lv_iconst (v := 0) M.1 M.2.1 dX0_tickBooting_39 (by decide) ?_
    obtain ⟨σ_12, e_13, hr⟩ := wbd hr
    refine x_put0 M K hB (hq.k) 12 (by decide) wd_36 dX0_tickBooting_40 (fun H locs hB => ?_)
    rw [← e_13] at hB
    refine lv_iconst (v := 0) M.1 M.2.1 dX0_tickBooting_43 (by decide) ?_
    refine lv_istore_n (lv' := [(1, .int 0), (0, .ref (Γ.1 q))]) M.1 M.2.1 dX0_tickBooting_44 rfl hl (by decide) rfl (fun ls hl => ?_)
    exact w_X0_tickBooting_45 M K hq  FU 0 _ _ _ _  hB (lv_sub hl [1, 0] rfl) hr
  · rw [if_neg c_3] at hr
    exact x_vret M hB (Option.some.inj hr) dX0_tickBooting_17
theorem c_X0_tickBooting (l : Launch) (Γ : GG) (q : Nat) (hq : isB q) (σ : Sg) (res : Int32 × Sg) (hr : f_X0_tickBooting_0 q σ = some res) : Met l yX0_tickBooting (Cond.code yX0_tickBooting cX0_tickBooting 2 none :: gtb) rm_X0_tickBooting (va_Pc [.ref (Γ.1 q)] (GI Γ σ)) (QV Γ res) 0 0 (AD Γ) :=
  x_metV (by decide) [.ref (Γ.1 q)] (Nat.le_of_ble_eq_true rfl) (fun p e s m args below meth c M K ls hl hB => w_X0_tickBooting_0 M K hq σ _ _ ls hB hl hr)
abbrev rm_X0_boot : Room := { frames := 0, cells := 0, slots := 0, locals := 0 }
def f_X0_boot_0 (q : Nat)   (σ : Sg) : Option (Int32 × Sg) :=
wb (st σ q 5 0) fun σ_1 =>
wb (st σ_1 q 8 (σ_1 (q + 1) 5)) fun σ_3 =>
some (0, σ_3)
set_option maxHeartbeats 4000000 in
set_option maxRecDepth 100000 in
theorem w_X0_boot_0 {p : Program} {l : Launch} {e : Env} {s : State} {m : MethodId} {args : Array Value} {below : List Frame} {meth : Method} {c : Code} {Γ : GG} {res : Int32 × Sg} (M : MX RX0 cX0_boot 1 none p s m args meth c) (K : KK Γ s s.heap) {q : Nat} (hq : isB q)  (σ : Sg) (H : Heap) (locs : List Loc) (ls : Array Slot)  (hB : Bd Γ σ s H locs) (hl : lv_has ls 1 [(0, .ref (Γ.1 q))]) (hr : f_X0_boot_0 q   σ = some res) : WV Γ rm_X0_boot p l e s m args below meth c H locs res (F0 m 0 ls []) := by
  unfold f_X0_boot_0 at hr
  refine lv_aload_n M.1 M.2.1 dX0_boot_0 rfl (lv_at hl 0 rfl) ?_
  refine lv_iconst (v := 0) M.1 M.2.1 dX0_boot_1 (by decide) ?_
  obtain ⟨σ_1, e_2, hr⟩ := wbd hr
  refine x_put0 M K hB (hq.k) 5 (by decide) wd_32 dX0_boot_2 (fun H locs hB => ?_)
  rw [← e_2] at hB
  refine lv_aload_n M.1 M.2.1 dX0_boot_5 rfl (lv_at hl 0 rfl) ?_
  refine lv_aload_n M.1 M.2.1 dX0_boot_6 rfl (lv_at hl 0 rfl) ?_
  refine x_get0 M K hB (hq.k) 0 (by decide) wd_40 (v := .ref (Γ.1 (q + 1))) rfl dX0_boot_7 ?_
  refine lv_iconst (v := 5) M.1 M.2.1 dX0_boot_10 (by decide) ?_
  refine x_ialdL M K hB (hq.a1) (k := 5) (by decide) (by decide) dX0_boot_11 ?_
  obtain ⟨σ_3, e_4, hr⟩ := wbd hr
  refine x_put0 M K hB (hq.k) 8 (by decide) wd_31 dX0_boot_12 (fun H locs hB => ?_)
  rw [← e_4] at hB
  exact x_vret M hB (Option.some.inj hr) dX0_boot_15
theorem c_X0_boot (l : Launch) (Γ : GG) (q : Nat) (hq : isB q) (σ : Sg) (res : Int32 × Sg) (hr : f_X0_boot_0 q σ = some res) : Met l yX0_boot (Cond.code yX0_boot cX0_boot 1 none :: gtb) rm_X0_boot (va_Pc [.ref (Γ.1 q)] (GI Γ σ)) (QV Γ res) 0 0 (AD Γ) :=
  x_metV (by decide) [.ref (Γ.1 q)] (Nat.le_of_ble_eq_true rfl) (fun p e s m args below meth c M K ls hl hB => w_X0_boot_0 M K hq σ _ _ ls hB hl hr)
abbrev rm_X0_fall : Room := { frames := 1, cells := 0, slots := 0, locals := 26 }
def f_X0_fall_110 (q : Nat) (a0 : Int32) (a1 : Int32)   (σ : Sg) : Option (Int32 × Sg) :=
cb (f_X0_boot_0 q σ) fun v_21 σ_22 =>
some (0, σ_22)
set_option maxHeartbeats 4000000 in
set_option maxRecDepth 100000 in
theorem w_X0_fall_110 {p : Program} {l : Launch} {e : Env} {s : State} {m : MethodId} {args : Array Value} {below : List Frame} {meth : Method} {c : Code} {Γ : GG} {res : Int32 × Sg} (M : MX RX0 cX0_fall 4 none p s m args meth c) (K : KK Γ s s.heap) {q : Nat} (hq : isB q) (a0 : Int32) (a1 : Int32)  (σ : Sg) (H : Heap) (locs : List Loc) (ls : Array Slot)  (hB : Bd Γ σ s H locs) (hl : lv_has ls 4 [(0, .ref (Γ.1 q))]) (hr : f_X0_fall_110 q a0 a1   σ = some res) : WV Γ rm_X0_fall p l e s m args below meth c H locs res (F0 m 110 ls []) := by
  unfold f_X0_fall_110 at hr
  refine lv_aload_n M.1 M.2.1 dX0_fall_110 rfl (lv_at hl 0 rfl) ?_
  obtain ⟨v_21, σ_22, h_23, hr⟩ := cbd hr
  refine x_callV (x_runV M K hB hl.1 [] (rest := []) rfl (c_X0_boot l Γ q hq σ (v_21, σ_22) h_23) cy_X0_boot (x_recv K hB (hq.k).2 (ent_0 (hq.k).1) rfl) wd_47 ⟨rfl, rfl, Nat.le_of_ble_eq_true rfl, Nat.le_of_ble_eq_true rfl⟩ (Nat.le_of_ble_eq_true rfl) ⟨Nat.zero_le _, Nat.zero_le _⟩ dX0_fall_111) hB (fun H locs hB => ?_)
  replace hB : Bd Γ σ_22 s H locs := hB
  exact x_vret M hB (Option.some.inj hr) dX0_fall_114
def f_X0_fall_96 (q : Nat) (a0 : Int32) (a1 : Int32)  (x3 : Int32) (σ : Sg) : Option (Int32 × Sg) :=
if x3 = 0 then
f_X0_fall_110 q a0 a1   σ
else
wb (st σ q 6 1) fun σ_17 =>
wb (st σ_17 q 7 0) fun σ_19 =>
f_X0_fall_110 q a0 a1   σ_19
set_option maxHeartbeats 4000000 in
set_option maxRecDepth 100000 in
theorem w_X0_fall_96 {p : Program} {l : Launch} {e : Env} {s : State} {m : MethodId} {args : Array Value} {below : List Frame} {meth : Method} {c : Code} {Γ : GG} {res : Int32 × Sg} (M : MX RX0 cX0_fall 4 none p s m args meth c) (K : KK Γ s s.heap) {q : Nat} (hq : isB q) (a0 : Int32) (a1 : Int32) (x3 : Int32) (σ : Sg) (H : Heap) (locs : List Loc) (ls : Array Slot)  (hB : Bd Γ σ s H locs) (hl : lv_has ls 4 [(0, .ref (Γ.1 q)), (3, .int x3)]) (hr : f_X0_fall_96 q a0 a1  x3 σ = some res) : WV Γ rm_X0_fall p l e s m args below meth c H locs res (F0 m 96 ls []) := by
  unfold f_X0_fall_96 at hr
  refine lv_iload_n M.1 M.2.1 dX0_fall_96 rfl (lv_at hl 1 rfl) ?_
  refine lv_if_eq (tgt := 110) M.1 M.2.1 dX0_fall_97 (by decide) (fun c_16 => ?_) (fun c_16 => ?_)
  · rw [if_pos c_16] at hr
    exact w_X0_fall_110 M K hq a0 a1   _ _ _ _  hB (lv_sub hl [0] rfl) hr
  · rw [if_neg c_16] at hr
    refine lv_aload_n M.1 M.2.1 dX0_fall_100 rfl (lv_at hl 0 rfl) ?_
    refine lv_iconst (v := 1) M.1 M.2.1 dX0_fall_101 (by decide) ?_
    obtain ⟨σ_17, e_18, hr⟩ := wbd hr
    refine x_put0 M K hB (hq.k) 6 (by decide) wd_43 dX0_fall_102 (fun H locs hB => ?_)
    rw [← e_18] at hB
    refine lv_aload_n M.1 M.2.1 dX0_fall_105 rfl (lv_at hl 0 rfl) ?_
    refine lv_iconst (v := 0) M.1 M.2.1 dX0_fall_106 (by decide) ?_
    obtain ⟨σ_19, e_20, hr⟩ := wbd hr
    refine x_put0 M K hB (hq.k) 7 (by decide) wd_46 dX0_fall_107 (fun H locs hB => ?_)
    rw [← e_20] at hB
    exact w_X0_fall_110 M K hq a0 a1   _ _ _ _  hB (lv_sub hl [0] rfl) hr
def f_X0_fall_77 (q : Nat) (a0 : Int32) (a1 : Int32)  (s0 : Int32) (σ : Sg) : Option (Int32 × Sg) :=
if s0 = 0 then
f_X0_fall_96 q a0 a1  s0 σ
else
if σ q 6 = 1 then
wb (st σ q 5 2) fun σ_14 =>
some (0, σ_14)
else
f_X0_fall_96 q a0 a1  s0 σ
set_option maxHeartbeats 4000000 in
set_option maxRecDepth 100000 in
theorem w_X0_fall_77 {p : Program} {l : Launch} {e : Env} {s : State} {m : MethodId} {args : Array Value} {below : List Frame} {meth : Method} {c : Code} {Γ : GG} {res : Int32 × Sg} (M : MX RX0 cX0_fall 4 none p s m args meth c) (K : KK Γ s s.heap) {q : Nat} (hq : isB q) (a0 : Int32) (a1 : Int32) (s0 : Int32) (σ : Sg) (H : Heap) (locs : List Loc) (ls : Array Slot)  (hB : Bd Γ σ s H locs) (hl : lv_has ls 4 [(0, .ref (Γ.1 q))]) (hr : f_X0_fall_77 q a0 a1  s0 σ = some res) : WV Γ rm_X0_fall p l e s m args below meth c H locs res (F0 m 77 ls [.int s0]) := by
  unfold f_X0_fall_77 at hr
  refine lv_istore_n (lv' := [(3, .int s0), (0, .ref (Γ.1 q))]) M.1 M.2.1 dX0_fall_77 rfl hl (by decide) rfl (fun ls hl => ?_)
  refine lv_iload_n M.1 M.2.1 dX0_fall_78 rfl (lv_at hl 0 rfl) ?_
  refine lv_if_eq (tgt := 96) M.1 M.2.1 dX0_fall_79 (by decide) (fun c_12 => ?_) (fun c_12 => ?_)
  · rw [if_pos c_12] at hr
    exact w_X0_fall_96 M K hq a0 a1  s0 _ _ _ _  hB (lv_sub hl [1, 0] rfl) hr
  · rw [if_neg c_12] at hr
    refine lv_aload_n M.1 M.2.1 dX0_fall_82 rfl (lv_at hl 1 rfl) ?_
    refine x_get0 M K hB (hq.k) 6 (by decide) wd_43 (v := .int (σ q 6)) rfl dX0_fall_83 ?_
    refine lv_iconst (v := 1) M.1 M.2.1 dX0_fall_86 (by decide) ?_
    refine lv_icmp_ne (tgt := 96) M.1 M.2.1 dX0_fall_87 (by decide) (fun c_13 => ?_) (fun c_13 => ?_)
    · rw [if_neg c_13] at hr
      exact w_X0_fall_96 M K hq a0 a1  s0 _ _ _ _  hB (lv_sub hl [1, 0] rfl) hr
    · rw [if_pos c_13] at hr
      refine lv_aload_n M.1 M.2.1 dX0_fall_90 rfl (lv_at hl 1 rfl) ?_
      refine lv_iconst (v := 2) M.1 M.2.1 dX0_fall_91 (by decide) ?_
      obtain ⟨σ_14, e_15, hr⟩ := wbd hr
      refine x_put0 M K hB (hq.k) 5 (by decide) wd_32 dX0_fall_92 (fun H locs hB => ?_)
      rw [← e_15] at hB
      exact x_vret M hB (Option.some.inj hr) dX0_fall_95
def f_X0_fall_48 (q : Nat) (a0 : Int32) (a1 : Int32)   (σ : Sg) : Option (Int32 × Sg) :=
wb (st σ q 7 ((σ q 7) + 1)) fun σ_9 =>
if σ_9 q 7 < σ_9 (q + 1) 7 then
f_X0_fall_77 q a0 a1  0 σ_9
else
f_X0_fall_77 q a0 a1  1 σ_9
set_option maxHeartbeats 4000000 in
set_option maxRecDepth 100000 in
theorem w_X0_fall_48 {p : Program} {l : Launch} {e : Env} {s : State} {m : MethodId} {args : Array Value} {below : List Frame} {meth : Method} {c : Code} {Γ : GG} {res : Int32 × Sg} (M : MX RX0 cX0_fall 4 none p s m args meth c) (K : KK Γ s s.heap) {q : Nat} (hq : isB q) (a0 : Int32) (a1 : Int32)  (σ : Sg) (H : Heap) (locs : List Loc) (ls : Array Slot)  (hB : Bd Γ σ s H locs) (hl : lv_has ls 4 [(0, .ref (Γ.1 q))]) (hr : f_X0_fall_48 q a0 a1   σ = some res) : WV Γ rm_X0_fall p l e s m args below meth c H locs res (F0 m 48 ls []) := by
  unfold f_X0_fall_48 at hr
  refine lv_aload_n M.1 M.2.1 dX0_fall_48 rfl (lv_at hl 0 rfl) ?_
  refine lv_dup M.1 M.2.1 dX0_fall_49 rfl ?_
  refine x_get0 M K hB (hq.k) 7 (by decide) wd_46 (v := .int (σ q 7)) rfl dX0_fall_50 ?_
  refine lv_iconst (v := 1) M.1 M.2.1 dX0_fall_53 (by decide) ?_
  refine lv_iadd M.1 M.2.1 dX0_fall_54 ?_
  obtain ⟨σ_9, e_10, hr⟩ := wbd hr
  refine x_put0 M K hB (hq.k) 7 (by decide) wd_46 dX0_fall_55 (fun H locs hB => ?_)
  rw [← e_10] at hB
  refine lv_aload_n M.1 M.2.1 dX0_fall_58 rfl (lv_at hl 0 rfl) ?_
  refine x_get0 M K hB (hq.k) 7 (by decide) wd_46 (v := .int (σ_9 q 7)) rfl dX0_fall_59 ?_
  refine lv_aload_n M.1 M.2.1 dX0_fall_62 rfl (lv_at hl 0 rfl) ?_
  refine x_get0 M K hB (hq.k) 0 (by decide) wd_40 (v := .ref (Γ.1 (q + 1))) rfl dX0_fall_63 ?_
  refine lv_bipush (v := 7) M.1 M.2.1 dX0_fall_66 (by decide) ?_
  refine x_ialdL M K hB (hq.a1) (k := 7) (by decide) (by decide) dX0_fall_68 ?_
  refine lv_icmp_lt (tgt := 76) M.1 M.2.1 dX0_fall_69 (by decide) (fun c_11 => ?_) (fun c_11 => ?_)
  · rw [if_pos c_11] at hr
    refine lv_iconst (v := 0) M.1 M.2.1 dX0_fall_76 (by decide) ?_
    exact w_X0_fall_77 M K hq a0 a1  0 _ _ _ _  hB (lv_sub hl [0] rfl) hr
  · rw [if_neg c_11] at hr
    refine lv_iconst (v := 1) M.1 M.2.1 dX0_fall_72 (by decide) ?_
    refine lv_goto (tgt := 77) M.1 M.2.1 dX0_fall_73 (by decide) ?_
    exact w_X0_fall_77 M K hq a0 a1  1 _ _ _ _  hB (lv_sub hl [0] rfl) hr
def f_X0_fall_0 (q : Nat) (a0 : Int32) (a1 : Int32)   (σ : Sg) : Option (Int32 × Sg) :=
cb (f_X1_add_0 (q + 3) a0 (σ q 4) a1 (σ q 6) (σ q 9) σ) fun v_1 σ_2 =>
if a1 < 0 then
f_X0_fall_48 q a0 a1   σ_2
else
if σ_2 q 3 ≤ a1 then
f_X0_fall_48 q a0 a1   σ_2
else
if a1 < 0 ∨ 6 ≤ a1.toNatClampNeg then none else
wb (st σ_2 (q + 2 + 3 + 5 * a1.toNatClampNeg) 15 ((σ_2 (q + 2 + 3 + 5 * a1.toNatClampNeg) 15) + 1)) fun σ_7 =>
f_X0_fall_48 q a0 a1   σ_7
set_option maxHeartbeats 4000000 in
set_option maxRecDepth 100000 in
theorem w_X0_fall_0 {p : Program} {l : Launch} {e : Env} {s : State} {m : MethodId} {args : Array Value} {below : List Frame} {meth : Method} {c : Code} {Γ : GG} {res : Int32 × Sg} (M : MX RX0 cX0_fall 4 none p s m args meth c) (K : KK Γ s s.heap) {q : Nat} (hq : isB q) (a0 : Int32) (a1 : Int32)  (σ : Sg) (H : Heap) (locs : List Loc) (ls : Array Slot)  (hB : Bd Γ σ s H locs) (hl : lv_has ls 4 [(0, .ref (Γ.1 q)), (1, .int a0), (2, .int a1)]) (hr : f_X0_fall_0 q a0 a1   σ = some res) : WV Γ rm_X0_fall p l e s m args below meth c H locs res (F0 m 0 ls []) := by
  unfold f_X0_fall_0 at hr
  refine lv_aload_n M.1 M.2.1 dX0_fall_0 rfl (lv_at hl 0 rfl) ?_
  refine x_get0 M K hB (hq.k) 2 (by decide) wd_41 (v := .ref (Γ.1 (q + 3))) rfl dX0_fall_1 ?_
  refine lv_iload_n M.1 M.2.1 dX0_fall_4 rfl (lv_at hl 1 rfl) ?_
  refine lv_aload_n M.1 M.2.1 dX0_fall_5 rfl (lv_at hl 0 rfl) ?_
  refine x_get0 M K hB (hq.k) 4 (by decide) wd_42 (v := .int (σ q 4)) rfl dX0_fall_6 ?_
  refine lv_iload_n M.1 M.2.1 dX0_fall_9 rfl (lv_at hl 2 rfl) ?_
  refine lv_aload_n M.1 M.2.1 dX0_fall_10 rfl (lv_at hl 0 rfl) ?_
  refine x_get0 M K hB (hq.k) 6 (by decide) wd_43 (v := .int (σ q 6)) rfl dX0_fall_11 ?_
  refine lv_aload_n M.1 M.2.1 dX0_fall_14 rfl (lv_at hl 0 rfl) ?_
  refine x_get0 M K hB (hq.k) 9 (by decide) wd_33 (v := .int (σ q 9)) rfl dX0_fall_15 ?_
  obtain ⟨v_1, σ_2, h_3, hr⟩ := cbd hr
  refine x_callV (x_runV M K hB hl.1 [.int a0, .int (σ q 4), .int a1, .int (σ q 6), .int (σ q 9)] (rest := []) rfl (c_X1_add l Γ (q + 3) a0 (σ q 4) a1 (σ q 6) (σ q 9) hq.bk σ (v_1, σ_2) h_3) cy_X1_add (x_recv K hB (hq.bk.k).2 (ent_1 (hq.bk.k).1) rfl) wd_44 ⟨rfl, rfl, Nat.le_of_ble_eq_true rfl, Nat.le_of_ble_eq_true rfl⟩ (Nat.le_of_ble_eq_true rfl) ⟨Nat.zero_le _, Nat.zero_le _⟩ dX0_fall_18) hB (fun H locs hB => ?_)
  replace hB : Bd Γ σ_2 s H locs := hB
  refine lv_iload_n M.1 M.2.1 dX0_fall_21 rfl (lv_at hl 2 rfl) ?_
  refine lv_if_lt (tgt := 48) M.1 M.2.1 dX0_fall_22 (by decide) (fun c_4 => ?_) (fun c_4 => ?_)
  · rw [if_pos c_4] at hr
    exact w_X0_fall_48 M K hq a0 a1   _ _ _ _  hB (lv_sub hl [0] rfl) hr
  · rw [if_neg c_4] at hr
    refine lv_iload_n M.1 M.2.1 dX0_fall_25 rfl (lv_at hl 2 rfl) ?_
    refine lv_aload_n M.1 M.2.1 dX0_fall_26 rfl (lv_at hl 0 rfl) ?_
    refine x_get0 M K hB (hq.k) 3 (by decide) wd_37 (v := .int (σ_2 q 3)) rfl dX0_fall_27 ?_
    refine lv_icmp_ge (tgt := 48) M.1 M.2.1 dX0_fall_30 (by decide) (fun c_5 => ?_) (fun c_5 => ?_)
    · rw [if_pos c_5] at hr
      exact w_X0_fall_48 M K hq a0 a1   _ _ _ _  hB (lv_sub hl [0] rfl) hr
    · rw [if_neg c_5] at hr
      refine lv_aload_n M.1 M.2.1 dX0_fall_33 rfl (lv_at hl 0 rfl) ?_
      refine x_get0 M K hB (hq.k) 1 (by decide) wd_38 (v := .ref (Γ.1 (q + 2))) rfl dX0_fall_34 ?_
      refine lv_iload_n M.1 M.2.1 dX0_fall_37 rfl (lv_at hl 2 rfl) ?_
      obtain ⟨g_6, hr⟩ := gd hr
      refine x_aaldT M K hB (hq.k2) g_6 dX0_fall_38 ?_
      refine lv_dup M.1 M.2.1 dX0_fall_39 rfl ?_
      refine x_get3 M K hB ((isB.t hq (vp_lt g_6)).k) 15 (by decide) wd_45 (v := .int (σ_2 (q + 2 + 3 + 5 * a1.toNatClampNeg) 15)) rfl dX0_fall_40 ?_
      refine lv_iconst (v := 1) M.1 M.2.1 dX0_fall_43 (by decide) ?_
      refine lv_iadd M.1 M.2.1 dX0_fall_44 ?_
      obtain ⟨σ_7, e_8, hr⟩ := wbd hr
      refine x_put3 M K hB ((isB.t hq (vp_lt g_6)).k) 15 (by decide) wd_45 dX0_fall_45 (fun H locs hB => ?_)
      rw [← e_8] at hB
      exact w_X0_fall_48 M K hq a0 a1   _ _ _ _  hB (lv_sub hl [0] rfl) hr
theorem c_X0_fall (l : Launch) (Γ : GG) (q : Nat) (a0 : Int32) (a1 : Int32) (hq : isB q) (σ : Sg) (res : Int32 × Sg) (hr : f_X0_fall_0 q a0 a1 σ = some res) : Met l yX0_fall (Cond.code yX0_fall cX0_fall 4 none :: gtb) rm_X0_fall (va_Pc [.ref (Γ.1 q), .int a0, .int a1] (GI Γ σ)) (QV Γ res) 0 0 (AD Γ) :=
  x_metV (by decide) [.ref (Γ.1 q), .int a0, .int a1] (Nat.le_of_ble_eq_true rfl) (fun p e s m args below meth c M K ls hl hB => w_X0_fall_0 M K hq a0 a1 σ _ _ ls hB hl hr)
abbrev rm_X0_lowestExpired : Room := { frames := 0, cells := 0, slots := 0, locals := 0 }
def f_X0_lowestExpired_2 (q : Nat)  : Nat → Int32 → Sg → Option (Int32 × Sg)
  | 0, _, _ => none
  | f + 1, x1, σ => if σ q 3 ≤ x1 then
some ((-6), σ)
else
if x1 < 0 ∨ 6 ≤ x1.toNatClampNeg then none else
if σ (q + 2 + 3 + 5 * x1.toNatClampNeg) 11 = 0 then
f_X0_lowestExpired_2 q  f (x1 + 1) σ
else
some (x1, σ)
set_option maxHeartbeats 4000000 in
set_option maxRecDepth 100000 in
theorem w_X0_lowestExpired_2 {p : Program} {l : Launch} {e : Env} {s : State} {m : MethodId} {args : Array Value} {below : List Frame} {meth : Method} {c : Code} {Γ : GG} {res : Int32 × Sg} (M : MX RX0 cX0_lowestExpired 2 (some .int) p s m args meth c) (K : KK Γ s s.heap) {q : Nat} (hq : isB q) : ∀ (f : Nat) (x1 : Int32) (σ : Sg) (H : Heap) (locs : List Loc) (ls : Array Slot)  (hB : Bd Γ σ s H locs) (hl : lv_has ls 2 [(0, .ref (Γ.1 q)), (1, .int x1)]) (hr : f_X0_lowestExpired_2 q  f x1 σ = some res), WI Γ rm_X0_lowestExpired p l e s m args below meth c H locs res (F0 m 2 ls []) := by
  intro f
  induction f with
  | zero => intros; rename_i hr; exact absurd hr (by rw [f_X0_lowestExpired_2]; exact fun h => by cases h)
  | succ f ih_2 =>
    intro x1 σ H locs ls  hB hl hr
    rw [f_X0_lowestExpired_2] at hr
    refine lv_iload_n M.1 M.2.1 dX0_lowestExpired_2 rfl (lv_at hl 1 rfl) ?_
    refine lv_aload_n M.1 M.2.1 dX0_lowestExpired_3 rfl (lv_at hl 0 rfl) ?_
    refine x_get0 M K hB (hq.k) 3 (by decide) wd_37 (v := .int (σ q 3)) rfl dX0_lowestExpired_4 ?_
    refine lv_icmp_ge (tgt := 30) M.1 M.2.1 dX0_lowestExpired_7 (by decide) (fun c_1 => ?_) (fun c_1 => ?_)
    · rw [if_pos c_1] at hr
      refine lv_bipush (v := (-6)) M.1 M.2.1 dX0_lowestExpired_30 (by decide) ?_
      exact x_iret M hB (Option.some.inj hr) dX0_lowestExpired_32
    · rw [if_neg c_1] at hr
      refine lv_aload_n M.1 M.2.1 dX0_lowestExpired_10 rfl (lv_at hl 0 rfl) ?_
      refine x_get0 M K hB (hq.k) 1 (by decide) wd_38 (v := .ref (Γ.1 (q + 2))) rfl dX0_lowestExpired_11 ?_
      refine lv_iload_n M.1 M.2.1 dX0_lowestExpired_14 rfl (lv_at hl 1 rfl) ?_
      obtain ⟨g_2, hr⟩ := gd hr
      refine x_aaldT M K hB (hq.k2) g_2 dX0_lowestExpired_15 ?_
      refine x_get3 M K hB ((isB.t hq (vp_lt g_2)).k) 11 (by decide) wd_48 (v := .int (σ (q + 2 + 3 + 5 * x1.toNatClampNeg) 11)) rfl dX0_lowestExpired_16 ?_
      refine lv_if_eq (tgt := 24) M.1 M.2.1 dX0_lowestExpired_19 (by decide) (fun c_3 => ?_) (fun c_3 => ?_)
      · rw [if_pos c_3] at hr
        refine lv_iinc (v := x1 + 1) (lv' := [(1, .int (x1 + 1)), (0, .ref (Γ.1 q))]) M.1 M.2.1 dX0_lowestExpired_24 hl (k := 1) rfl rfl (by decide) rfl (fun ls hl => ?_)
        refine lv_goto (tgt := 2) M.1 M.2.1 dX0_lowestExpired_27 (by decide) ?_
        exact ih_2 (x1 + 1) _ _ _ _  hB (lv_sub hl [1, 0] rfl) hr
      · rw [if_neg c_3] at hr
        refine lv_iload_n M.1 M.2.1 dX0_lowestExpired_22 rfl (lv_at hl 1 rfl) ?_
        exact x_iret M hB (Option.some.inj hr) dX0_lowestExpired_23
def f_X0_lowestExpired_0 (q : Nat)   (σ : Sg) : Option (Int32 × Sg) :=
f_X0_lowestExpired_2 q  FU 0 σ
set_option maxHeartbeats 4000000 in
set_option maxRecDepth 100000 in
theorem w_X0_lowestExpired_0 {p : Program} {l : Launch} {e : Env} {s : State} {m : MethodId} {args : Array Value} {below : List Frame} {meth : Method} {c : Code} {Γ : GG} {res : Int32 × Sg} (M : MX RX0 cX0_lowestExpired 2 (some .int) p s m args meth c) (K : KK Γ s s.heap) {q : Nat} (hq : isB q)  (σ : Sg) (H : Heap) (locs : List Loc) (ls : Array Slot)  (hB : Bd Γ σ s H locs) (hl : lv_has ls 2 [(0, .ref (Γ.1 q))]) (hr : f_X0_lowestExpired_0 q   σ = some res) : WI Γ rm_X0_lowestExpired p l e s m args below meth c H locs res (F0 m 0 ls []) := by
  unfold f_X0_lowestExpired_0 at hr
  refine lv_iconst (v := 0) M.1 M.2.1 dX0_lowestExpired_0 (by decide) ?_
  refine lv_istore_n (lv' := [(1, .int 0), (0, .ref (Γ.1 q))]) M.1 M.2.1 dX0_lowestExpired_1 rfl hl (by decide) rfl (fun ls hl => ?_)
  exact w_X0_lowestExpired_2 M K hq  FU 0 _ _ _ _  hB (lv_sub hl [1, 0] rfl) hr
theorem c_X0_lowestExpired (l : Launch) (Γ : GG) (q : Nat) (hq : isB q) (σ : Sg) (res : Int32 × Sg) (hr : f_X0_lowestExpired_0 q σ = some res) : Met l yX0_lowestExpired (Cond.code yX0_lowestExpired cX0_lowestExpired 2 (some .int) :: gtb) rm_X0_lowestExpired (va_Pc [.ref (Γ.1 q)] (GI Γ σ)) (QI Γ res) 0 0 (AD Γ) :=
  x_metI (by decide) [.ref (Γ.1 q)] (Nat.le_of_ble_eq_true rfl) (fun p e s m args below meth c M K ls hl hB => w_X0_lowestExpired_0 M K hq σ _ _ ls hB hl hr)
abbrev rm_X0_supervise : Room := { frames := 2, cells := 0, slots := 0, locals := 44 }
def f_X0_supervise_114 (q : Nat)  (s0 : Int32) (σ : Sg) : Option (Int32 × Sg) :=
if s0 = 0 ∨ s0 = 1 then some (s0, σ) else none
set_option maxHeartbeats 4000000 in
set_option maxRecDepth 100000 in
theorem w_X0_supervise_114 {p : Program} {l : Launch} {e : Env} {s : State} {m : MethodId} {args : Array Value} {below : List Frame} {meth : Method} {c : Code} {Γ : GG} {res : Int32 × Sg} (M : MX RX0 cX0_supervise 3 (some .boolean) p s m args meth c) (K : KK Γ s s.heap) {q : Nat} (hq : isB q) (s0 : Int32) (σ : Sg) (H : Heap) (locs : List Loc) (ls : Array Slot)  (hB : Bd Γ σ s H locs) (hl : lv_has ls 3 []) (hr : f_X0_supervise_114 q  s0 σ = some res) : WI Γ rm_X0_supervise p l e s m args below meth c H locs res (F0 m 114 ls [.int s0]) := by
  unfold f_X0_supervise_114 at hr
  obtain ⟨g_21, hr⟩ := gd2 hr
  exact x_zret M hB (nar_z g_21) (Option.some.inj hr) dX0_supervise_114
def f_X0_supervise_113 (q : Nat)   (σ : Sg) : Option (Int32 × Sg) :=
f_X0_supervise_114 q  0 σ
set_option maxHeartbeats 4000000 in
set_option maxRecDepth 100000 in
theorem w_X0_supervise_113 {p : Program} {l : Launch} {e : Env} {s : State} {m : MethodId} {args : Array Value} {below : List Frame} {meth : Method} {c : Code} {Γ : GG} {res : Int32 × Sg} (M : MX RX0 cX0_supervise 3 (some .boolean) p s m args meth c) (K : KK Γ s s.heap) {q : Nat} (hq : isB q)  (σ : Sg) (H : Heap) (locs : List Loc) (ls : Array Slot)  (hB : Bd Γ σ s H locs) (hl : lv_has ls 3 []) (hr : f_X0_supervise_113 q   σ = some res) : WI Γ rm_X0_supervise p l e s m args below meth c H locs res (F0 m 113 ls []) := by
  unfold f_X0_supervise_113 at hr
  refine lv_iconst (v := 0) M.1 M.2.1 dX0_supervise_113 (by decide) ?_
  exact w_X0_supervise_114 M K hq  0 _ _ _ _  hB (lv_sub hl [] rfl) hr
def f_X0_supervise_83 (q : Nat)   (σ : Sg) : Option (Int32 × Sg) :=
if σ (q + 1) 4 < σ q 12 then
f_X0_supervise_113 q   σ
else
if σ q 10 < σ (q + 1) 3 then
f_X0_supervise_113 q   σ
else
f_X0_supervise_114 q  1 σ
set_option maxHeartbeats 4000000 in
set_option maxRecDepth 100000 in
theorem w_X0_supervise_83 {p : Program} {l : Launch} {e : Env} {s : State} {m : MethodId} {args : Array Value} {below : List Frame} {meth : Method} {c : Code} {Γ : GG} {res : Int32 × Sg} (M : MX RX0 cX0_supervise 3 (some .boolean) p s m args meth c) (K : KK Γ s s.heap) {q : Nat} (hq : isB q)  (σ : Sg) (H : Heap) (locs : List Loc) (ls : Array Slot)  (hB : Bd Γ σ s H locs) (hl : lv_has ls 3 [(0, .ref (Γ.1 q))]) (hr : f_X0_supervise_83 q   σ = some res) : WI Γ rm_X0_supervise p l e s m args below meth c H locs res (F0 m 83 ls []) := by
  unfold f_X0_supervise_83 at hr
  refine lv_aload_n M.1 M.2.1 dX0_supervise_83 rfl (lv_at hl 0 rfl) ?_
  refine x_get0 M K hB (hq.k) 12 (by decide) wd_36 (v := .int (σ q 12)) rfl dX0_supervise_84 ?_
  refine lv_aload_n M.1 M.2.1 dX0_supervise_87 rfl (lv_at hl 0 rfl) ?_
  refine x_get0 M K hB (hq.k) 0 (by decide) wd_40 (v := .ref (Γ.1 (q + 1))) rfl dX0_supervise_88 ?_
  refine lv_iconst (v := 4) M.1 M.2.1 dX0_supervise_91 (by decide) ?_
  refine x_ialdL M K hB (hq.a1) (k := 4) (by decide) (by decide) dX0_supervise_92 ?_
  refine lv_icmp_gt (tgt := 113) M.1 M.2.1 dX0_supervise_93 (by decide) (fun c_19 => ?_) (fun c_19 => ?_)
  · rw [if_pos c_19] at hr
    exact w_X0_supervise_113 M K hq   _ _ _ _  hB (lv_sub hl [] rfl) hr
  · rw [if_neg c_19] at hr
    refine lv_aload_n M.1 M.2.1 dX0_supervise_96 rfl (lv_at hl 0 rfl) ?_
    refine x_get0 M K hB (hq.k) 10 (by decide) wd_34 (v := .int (σ q 10)) rfl dX0_supervise_97 ?_
    refine lv_aload_n M.1 M.2.1 dX0_supervise_100 rfl (lv_at hl 0 rfl) ?_
    refine x_get0 M K hB (hq.k) 0 (by decide) wd_40 (v := .ref (Γ.1 (q + 1))) rfl dX0_supervise_101 ?_
    refine lv_iconst (v := 3) M.1 M.2.1 dX0_supervise_104 (by decide) ?_
    refine x_ialdL M K hB (hq.a1) (k := 3) (by decide) (by decide) dX0_supervise_105 ?_
    refine lv_icmp_lt (tgt := 113) M.1 M.2.1 dX0_supervise_106 (by decide) (fun c_20 => ?_) (fun c_20 => ?_)
    · rw [if_pos c_20] at hr
      exact w_X0_supervise_113 M K hq   _ _ _ _  hB (lv_sub hl [] rfl) hr
    · rw [if_neg c_20] at hr
      refine lv_iconst (v := 1) M.1 M.2.1 dX0_supervise_109 (by decide) ?_
      refine lv_goto (tgt := 114) M.1 M.2.1 dX0_supervise_110 (by decide) ?_
      exact w_X0_supervise_114 M K hq  1 _ _ _ _  hB (lv_sub hl [] rfl) hr
def f_X0_supervise_58 (q : Nat) (rec_12 : Int32 → Sg → Option (Int32 × Sg)) (x1 : Int32) (σ : Sg) : Option (Int32 × Sg) :=
rec_12 (x1 + 1) σ
set_option maxHeartbeats 4000000 in
set_option maxRecDepth 100000 in
theorem w_X0_supervise_58 {p : Program} {l : Launch} {e : Env} {s : State} {m : MethodId} {args : Array Value} {below : List Frame} {meth : Method} {c : Code} {Γ : GG} {res : Int32 × Sg} (M : MX RX0 cX0_supervise 3 (some .boolean) p s m args meth c) (K : KK Γ s s.heap) {q : Nat} (hq : isB q) (rec_12 : Int32 → Sg → Option (Int32 × Sg)) (ih_12 : ∀ (x1 : Int32) (σ : Sg) (H : Heap) (locs : List Loc) (ls : Array Slot) , Bd Γ σ s H locs → lv_has ls 3 [(0, .ref (Γ.1 q)), (1, .int x1)] → rec_12 x1 σ = some res → WI Γ rm_X0_supervise p l e s m args below meth c H locs res (F0 m 12 ls [])) (x1 : Int32) (σ : Sg) (H : Heap) (locs : List Loc) (ls : Array Slot)  (hB : Bd Γ σ s H locs) (hl : lv_has ls 3 [(0, .ref (Γ.1 q)), (1, .int x1)]) (hr : f_X0_supervise_58 q rec_12 x1 σ = some res) : WI Γ rm_X0_supervise p l e s m args below meth c H locs res (F0 m 58 ls []) := by
  unfold f_X0_supervise_58 at hr
  refine lv_iinc (v := x1 + 1) (lv' := [(1, .int (x1 + 1)), (0, .ref (Γ.1 q))]) M.1 M.2.1 dX0_supervise_58 hl (k := 1) rfl rfl (by decide) rfl (fun ls hl => ?_)
  refine lv_goto (tgt := 12) M.1 M.2.1 dX0_supervise_61 (by decide) ?_
  exact ih_12 (x1 + 1) _ _ _ _  hB (lv_sub hl [1, 0] rfl) hr
def f_X0_supervise_12 (q : Nat)  : Nat → Int32 → Sg → Option (Int32 × Sg)
  | 0, _, _ => none
  | f + 1, x1, σ => if σ q 3 ≤ x1 then
cb (f_X0_lowestExpired_0 q σ) fun v_4 σ_5 =>
if v_4 = (-6) then
f_X0_supervise_83 q   σ_5
else
wb (st σ_5 q 12 ((σ_5 q 12) + 1)) fun σ_8 =>
f_X0_supervise_83 q   σ_8
else
if x1 < 0 ∨ 6 ≤ x1.toNatClampNeg then none else
if σ (q + 2 + 3 + 5 * x1.toNatClampNeg) 11 = 0 then
cb (f_X4_divides_0 (σ (q + 2 + 3 + 5 * x1.toNatClampNeg + 1) 3) (σ q 11) σ) fun v_12 σ_13 =>
if v_12 = 0 then
f_X0_supervise_58 q (f_X0_supervise_12 q  f) x1 σ_13
else
cb (f_X3_endCycle_0 (q + 2 + 3 + 5 * x1.toNatClampNeg) (σ_13 q 4) σ_13) fun v_16 σ_17 =>
f_X0_supervise_58 q (f_X0_supervise_12 q  f) x1 σ_17
else
f_X0_supervise_58 q (f_X0_supervise_12 q  f) x1 σ
set_option maxHeartbeats 4000000 in
set_option maxRecDepth 100000 in
theorem w_X0_supervise_12 {p : Program} {l : Launch} {e : Env} {s : State} {m : MethodId} {args : Array Value} {below : List Frame} {meth : Method} {c : Code} {Γ : GG} {res : Int32 × Sg} (M : MX RX0 cX0_supervise 3 (some .boolean) p s m args meth c) (K : KK Γ s s.heap) {q : Nat} (hq : isB q) : ∀ (f : Nat) (x1 : Int32) (σ : Sg) (H : Heap) (locs : List Loc) (ls : Array Slot)  (hB : Bd Γ σ s H locs) (hl : lv_has ls 3 [(0, .ref (Γ.1 q)), (1, .int x1)]) (hr : f_X0_supervise_12 q  f x1 σ = some res), WI Γ rm_X0_supervise p l e s m args below meth c H locs res (F0 m 12 ls []) := by
  intro f
  induction f with
  | zero => intros; rename_i hr; exact absurd hr (by rw [f_X0_supervise_12]; exact fun h => by cases h)
  | succ f ih_12 =>
    intro x1 σ H locs ls  hB hl hr
    rw [f_X0_supervise_12] at hr
    refine lv_iload_n M.1 M.2.1 dX0_supervise_12 rfl (lv_at hl 1 rfl) ?_
    refine lv_aload_n M.1 M.2.1 dX0_supervise_13 rfl (lv_at hl 0 rfl) ?_
    refine x_get0 M K hB (hq.k) 3 (by decide) wd_37 (v := .int (σ q 3)) rfl dX0_supervise_14 ?_
    refine lv_icmp_ge (tgt := 64) M.1 M.2.1 dX0_supervise_17 (by decide) (fun c_3 => ?_) (fun c_3 => ?_)
    · rw [if_pos c_3] at hr
      refine lv_aload_n M.1 M.2.1 dX0_supervise_64 rfl (lv_at hl 0 rfl) ?_
      obtain ⟨v_4, σ_5, h_6, hr⟩ := cbd hr
      refine x_callI (x_runV M K hB hl.1 [] (rest := []) rfl (c_X0_lowestExpired l Γ q hq σ (v_4, σ_5) h_6) cy_X0_lowestExpired (x_recv K hB (hq.k).2 (ent_0 (hq.k).1) rfl) wd_49 ⟨rfl, rfl, Nat.le_of_ble_eq_true rfl, Nat.le_of_ble_eq_true rfl⟩ (Nat.le_of_ble_eq_true rfl) ⟨Nat.zero_le _, Nat.zero_le _⟩ dX0_supervise_65) hB (fun H locs hB => ?_)
      replace hB : Bd Γ σ_5 s H locs := hB
      refine lv_bipush (v := (-6)) M.1 M.2.1 dX0_supervise_68 (by decide) ?_
      refine lv_icmp_eq (tgt := 83) M.1 M.2.1 dX0_supervise_70 (by decide) (fun c_7 => ?_) (fun c_7 => ?_)
      · rw [if_pos c_7] at hr
        exact w_X0_supervise_83 M K hq   _ _ _ _  hB (lv_sub hl [0] rfl) hr
      · rw [if_neg c_7] at hr
        refine lv_aload_n M.1 M.2.1 dX0_supervise_73 rfl (lv_at hl 0 rfl) ?_
        refine lv_dup M.1 M.2.1 dX0_supervise_74 rfl ?_
        refine x_get0 M K hB (hq.k) 12 (by decide) wd_36 (v := .int (σ_5 q 12)) rfl dX0_supervise_75 ?_
        refine lv_iconst (v := 1) M.1 M.2.1 dX0_supervise_78 (by decide) ?_
        refine lv_iadd M.1 M.2.1 dX0_supervise_79 ?_
        obtain ⟨σ_8, e_9, hr⟩ := wbd hr
        refine x_put0 M K hB (hq.k) 12 (by decide) wd_36 dX0_supervise_80 (fun H locs hB => ?_)
        rw [← e_9] at hB
        exact w_X0_supervise_83 M K hq   _ _ _ _  hB (lv_sub hl [0] rfl) hr
    · rw [if_neg c_3] at hr
      refine lv_aload_n M.1 M.2.1 dX0_supervise_20 rfl (lv_at hl 0 rfl) ?_
      refine x_get0 M K hB (hq.k) 1 (by decide) wd_38 (v := .ref (Γ.1 (q + 2))) rfl dX0_supervise_21 ?_
      refine lv_iload_n M.1 M.2.1 dX0_supervise_24 rfl (lv_at hl 1 rfl) ?_
      obtain ⟨g_10, hr⟩ := gd hr
      refine x_aaldT M K hB (hq.k2) g_10 dX0_supervise_25 ?_
      refine lv_astore_n (lv' := [(2, .ref (Γ.1 (q + 2 + 3 + 5 * x1.toNatClampNeg))), (0, .ref (Γ.1 q)), (1, .int x1)]) M.1 M.2.1 dX0_supervise_26 rfl hl (by decide) rfl (fun ls hl => ?_)
      refine lv_aload_n M.1 M.2.1 dX0_supervise_27 rfl (lv_at hl 0 rfl) ?_
      refine x_get3 M K hB ((isB.t hq (vp_lt g_10)).k) 11 (by decide) wd_48 (v := .int (σ (q + 2 + 3 + 5 * x1.toNatClampNeg) 11)) rfl dX0_supervise_28 ?_
      refine lv_if_ne (tgt := 58) M.1 M.2.1 dX0_supervise_31 (by decide) (fun c_11 => ?_) (fun c_11 => ?_)
      · rw [if_neg c_11] at hr
        exact w_X0_supervise_58 M K hq _ ih_12 x1 _ _ _ _  hB (lv_sub hl [1, 2] rfl) hr
      · rw [if_pos c_11] at hr
        refine lv_aload_n M.1 M.2.1 dX0_supervise_34 rfl (lv_at hl 0 rfl) ?_
        refine x_get3 M K hB ((isB.t hq (vp_lt g_10)).k) 0 (by decide) wd_50 (v := .ref (Γ.1 (q + 2 + 3 + 5 * x1.toNatClampNeg + 1))) rfl dX0_supervise_35 ?_
        refine lv_iconst (v := 3) M.1 M.2.1 dX0_supervise_38 (by decide) ?_
        refine x_ialdL M K hB ((isB.t hq (vp_lt g_10)).a1) (k := 3) (by decide) (by decide) dX0_supervise_39 ?_
        refine lv_aload_n M.1 M.2.1 dX0_supervise_40 rfl (lv_at hl 1 rfl) ?_
        refine x_get0 M K hB (hq.k) 11 (by decide) wd_35 (v := .int (σ q 11)) rfl dX0_supervise_41 ?_
        obtain ⟨v_12, σ_13, h_14, hr⟩ := cbd hr
        refine x_callI (x_runSN M K hB hl.1 [.int (σ (q + 2 + 3 + 5 * x1.toNatClampNeg + 1) 3), .int (σ q 11)] (rest := []) rfl (c_X4_divides l Γ (σ (q + 2 + 3 + 5 * x1.toNatClampNeg + 1) 3) (σ q 11)  σ (v_12, σ_13) h_14) cy_X4_divides nw_4 ⟨rfl, rfl, Nat.le_of_ble_eq_true rfl, Nat.le_of_ble_eq_true rfl⟩ (Nat.le_of_ble_eq_true rfl) ⟨Nat.zero_le _, Nat.zero_le _⟩ dX0_supervise_44) hB (fun H locs hB => ?_)
        replace hB : Bd Γ σ_13 s H locs := hB
        refine lv_if_eq (tgt := 58) M.1 M.2.1 dX0_supervise_47 (by decide) (fun c_15 => ?_) (fun c_15 => ?_)
        · rw [if_pos c_15] at hr
          exact w_X0_supervise_58 M K hq _ ih_12 x1 _ _ _ _  hB (lv_sub hl [1, 2] rfl) hr
        · rw [if_neg c_15] at hr
          refine lv_aload_n M.1 M.2.1 dX0_supervise_50 rfl (lv_at hl 0 rfl) ?_
          refine lv_aload_n M.1 M.2.1 dX0_supervise_51 rfl (lv_at hl 1 rfl) ?_
          refine x_get0 M K hB (hq.k) 4 (by decide) wd_42 (v := .int (σ_13 q 4)) rfl dX0_supervise_52 ?_
          obtain ⟨v_16, σ_17, h_18, hr⟩ := cbd hr
          refine x_callV (x_runV M K hB hl.1 [.int (σ_13 q 4)] (rest := []) rfl (c_X3_endCycle l Γ (q + 2 + 3 + 5 * x1.toNatClampNeg) (σ_13 q 4) (isB.t hq (vp_lt g_10)) σ_13 (v_16, σ_17) h_18) cy_X3_endCycle (x_recv K hB ((isB.t hq (vp_lt g_10)).k).2 (ent_3 ((isB.t hq (vp_lt g_10)).k).1) rfl) wd_51 ⟨rfl, rfl, Nat.le_of_ble_eq_true rfl, Nat.le_of_ble_eq_true rfl⟩ (Nat.le_of_ble_eq_true rfl) ⟨Nat.zero_le _, Nat.zero_le _⟩ dX0_supervise_55) hB (fun H locs hB => ?_)
          replace hB : Bd Γ σ_17 s H locs := hB
          exact w_X0_supervise_58 M K hq _ ih_12 x1 _ _ _ _  hB (lv_sub hl [1, 2] rfl) hr
def f_X0_supervise_0 (q : Nat)   (σ : Sg) : Option (Int32 × Sg) :=
wb (st σ q 11 ((σ q 11) + 1)) fun σ_1 =>
f_X0_supervise_12 q  FU 0 σ_1
set_option maxHeartbeats 4000000 in
set_option maxRecDepth 100000 in
theorem w_X0_supervise_0 {p : Program} {l : Launch} {e : Env} {s : State} {m : MethodId} {args : Array Value} {below : List Frame} {meth : Method} {c : Code} {Γ : GG} {res : Int32 × Sg} (M : MX RX0 cX0_supervise 3 (some .boolean) p s m args meth c) (K : KK Γ s s.heap) {q : Nat} (hq : isB q)  (σ : Sg) (H : Heap) (locs : List Loc) (ls : Array Slot)  (hB : Bd Γ σ s H locs) (hl : lv_has ls 3 [(0, .ref (Γ.1 q))]) (hr : f_X0_supervise_0 q   σ = some res) : WI Γ rm_X0_supervise p l e s m args below meth c H locs res (F0 m 0 ls []) := by
  unfold f_X0_supervise_0 at hr
  refine lv_aload_n M.1 M.2.1 dX0_supervise_0 rfl (lv_at hl 0 rfl) ?_
  refine lv_dup M.1 M.2.1 dX0_supervise_1 rfl ?_
  refine x_get0 M K hB (hq.k) 11 (by decide) wd_35 (v := .int (σ q 11)) rfl dX0_supervise_2 ?_
  refine lv_iconst (v := 1) M.1 M.2.1 dX0_supervise_5 (by decide) ?_
  refine lv_iadd M.1 M.2.1 dX0_supervise_6 ?_
  obtain ⟨σ_1, e_2, hr⟩ := wbd hr
  refine x_put0 M K hB (hq.k) 11 (by decide) wd_35 dX0_supervise_7 (fun H locs hB => ?_)
  rw [← e_2] at hB
  refine lv_iconst (v := 0) M.1 M.2.1 dX0_supervise_10 (by decide) ?_
  refine lv_istore_n (lv' := [(1, .int 0), (0, .ref (Γ.1 q))]) M.1 M.2.1 dX0_supervise_11 rfl hl (by decide) rfl (fun ls hl => ?_)
  exact w_X0_supervise_12 M K hq  FU 0 _ _ _ _  hB (lv_sub hl [1, 0] rfl) hr
theorem c_X0_supervise (l : Launch) (Γ : GG) (q : Nat) (hq : isB q) (σ : Sg) (res : Int32 × Sg) (hr : f_X0_supervise_0 q σ = some res) : Met l yX0_supervise (Cond.code yX0_supervise cX0_supervise 3 (some .boolean) :: gtb) rm_X0_supervise (va_Pc [.ref (Γ.1 q)] (GI Γ σ)) (QI Γ res) 0 0 (AD Γ) :=
  x_metI (by decide) [.ref (Γ.1 q)] (Nat.le_of_ble_eq_true rfl) (fun p e s m args below meth c M K ls hl hB => w_X0_supervise_0 M K hq σ _ _ ls hB hl hr)
abbrev rm_X0_watch : Room := { frames := 0, cells := 0, slots := 0, locals := 0 }
def f_X0_watch_48 (q : Nat) (a0 : Int32)  (s0 : Int32) (σ : Sg) : Option (Int32 × Sg) :=
some (s0, σ)
set_option maxHeartbeats 4000000 in
set_option maxRecDepth 100000 in
theorem w_X0_watch_48 {p : Program} {l : Launch} {e : Env} {s : State} {m : MethodId} {args : Array Value} {below : List Frame} {meth : Method} {c : Code} {Γ : GG} {res : Int32 × Sg} (M : MX RX0 cX0_watch 2 (some .int) p s m args meth c) (K : KK Γ s s.heap) {q : Nat} (hq : isB q) (a0 : Int32) (s0 : Int32) (σ : Sg) (H : Heap) (locs : List Loc) (ls : Array Slot)  (hB : Bd Γ σ s H locs) (hl : lv_has ls 2 []) (hr : f_X0_watch_48 q a0  s0 σ = some res) : WI Γ rm_X0_watch p l e s m args below meth c H locs res (F0 m 48 ls [.int s0]) := by
  unfold f_X0_watch_48 at hr
  exact x_iret M hB (Option.some.inj hr) dX0_watch_48
def f_X0_watch_19 (q : Nat) (a0 : Int32)  (x1 : Int32) (σ : Sg) : Option (Int32 × Sg) :=
if x1 = 0 then
if σ q 10 ≤ σ (q + 1) 1 then
f_X0_watch_48 q a0  0 σ
else
f_X0_watch_48 q a0  2 σ
else
wb (st σ q 10 0) fun σ_5 =>
some (0, σ_5)
set_option maxHeartbeats 4000000 in
set_option maxRecDepth 100000 in
theorem w_X0_watch_19 {p : Program} {l : Launch} {e : Env} {s : State} {m : MethodId} {args : Array Value} {below : List Frame} {meth : Method} {c : Code} {Γ : GG} {res : Int32 × Sg} (M : MX RX0 cX0_watch 2 (some .int) p s m args meth c) (K : KK Γ s s.heap) {q : Nat} (hq : isB q) (a0 : Int32) (x1 : Int32) (σ : Sg) (H : Heap) (locs : List Loc) (ls : Array Slot)  (hB : Bd Γ σ s H locs) (hl : lv_has ls 2 [(0, .ref (Γ.1 q)), (1, .int x1)]) (hr : f_X0_watch_19 q a0  x1 σ = some res) : WI Γ rm_X0_watch p l e s m args below meth c H locs res (F0 m 19 ls []) := by
  unfold f_X0_watch_19 at hr
  refine lv_iload_n M.1 M.2.1 dX0_watch_19 rfl (lv_at hl 1 rfl) ?_
  refine lv_if_eq (tgt := 30) M.1 M.2.1 dX0_watch_20 (by decide) (fun c_3 => ?_) (fun c_3 => ?_)
  · rw [if_pos c_3] at hr
    refine lv_aload_n M.1 M.2.1 dX0_watch_30 rfl (lv_at hl 0 rfl) ?_
    refine x_get0 M K hB (hq.k) 10 (by decide) wd_34 (v := .int (σ q 10)) rfl dX0_watch_31 ?_
    refine lv_aload_n M.1 M.2.1 dX0_watch_34 rfl (lv_at hl 0 rfl) ?_
    refine x_get0 M K hB (hq.k) 0 (by decide) wd_40 (v := .ref (Γ.1 (q + 1))) rfl dX0_watch_35 ?_
    refine lv_iconst (v := 1) M.1 M.2.1 dX0_watch_38 (by decide) ?_
    refine x_ialdL M K hB (hq.a1) (k := 1) (by decide) (by decide) dX0_watch_39 ?_
    refine lv_icmp_le (tgt := 47) M.1 M.2.1 dX0_watch_40 (by decide) (fun c_4 => ?_) (fun c_4 => ?_)
    · rw [if_pos c_4] at hr
      refine lv_iconst (v := 0) M.1 M.2.1 dX0_watch_47 (by decide) ?_
      exact w_X0_watch_48 M K hq a0  0 _ _ _ _  hB (lv_sub hl [] rfl) hr
    · rw [if_neg c_4] at hr
      refine lv_iconst (v := 2) M.1 M.2.1 dX0_watch_43 (by decide) ?_
      refine lv_goto (tgt := 48) M.1 M.2.1 dX0_watch_44 (by decide) ?_
      exact w_X0_watch_48 M K hq a0  2 _ _ _ _  hB (lv_sub hl [] rfl) hr
  · rw [if_neg c_3] at hr
    refine lv_aload_n M.1 M.2.1 dX0_watch_23 rfl (lv_at hl 0 rfl) ?_
    refine lv_iconst (v := 0) M.1 M.2.1 dX0_watch_24 (by decide) ?_
    obtain ⟨σ_5, e_6, hr⟩ := wbd hr
    refine x_put0 M K hB (hq.k) 10 (by decide) wd_34 dX0_watch_25 (fun H locs hB => ?_)
    rw [← e_6] at hB
    refine lv_iconst (v := 0) M.1 M.2.1 dX0_watch_28 (by decide) ?_
    exact x_iret M hB (Option.some.inj hr) dX0_watch_29
def f_X0_watch_0 (q : Nat) (a0 : Int32)   (σ : Sg) : Option (Int32 × Sg) :=
if a0 = 0 then
f_X0_watch_19 q a0  a0 σ
else
if σ (q + 1) 0 ≤ σ q 10 then
f_X0_watch_19 q a0  a0 σ
else
some (1, σ)
set_option maxHeartbeats 4000000 in
set_option maxRecDepth 100000 in
theorem w_X0_watch_0 {p : Program} {l : Launch} {e : Env} {s : State} {m : MethodId} {args : Array Value} {below : List Frame} {meth : Method} {c : Code} {Γ : GG} {res : Int32 × Sg} (M : MX RX0 cX0_watch 2 (some .int) p s m args meth c) (K : KK Γ s s.heap) {q : Nat} (hq : isB q) (a0 : Int32)  (σ : Sg) (H : Heap) (locs : List Loc) (ls : Array Slot)  (hB : Bd Γ σ s H locs) (hl : lv_has ls 2 [(0, .ref (Γ.1 q)), (1, .int a0)]) (hr : f_X0_watch_0 q a0   σ = some res) : WI Γ rm_X0_watch p l e s m args below meth c H locs res (F0 m 0 ls []) := by
  unfold f_X0_watch_0 at hr
  refine lv_iload_n M.1 M.2.1 dX0_watch_0 rfl (lv_at hl 1 rfl) ?_
  refine lv_if_eq (tgt := 19) M.1 M.2.1 dX0_watch_1 (by decide) (fun c_1 => ?_) (fun c_1 => ?_)
  · rw [if_pos c_1] at hr
    exact w_X0_watch_19 M K hq a0  a0 _ _ _ _  hB (lv_sub hl [0, 1] rfl) hr
  · rw [if_neg c_1] at hr
    refine lv_aload_n M.1 M.2.1 dX0_watch_4 rfl (lv_at hl 0 rfl) ?_
    refine x_get0 M K hB (hq.k) 10 (by decide) wd_34 (v := .int (σ q 10)) rfl dX0_watch_5 ?_
    refine lv_aload_n M.1 M.2.1 dX0_watch_8 rfl (lv_at hl 0 rfl) ?_
    refine x_get0 M K hB (hq.k) 0 (by decide) wd_40 (v := .ref (Γ.1 (q + 1))) rfl dX0_watch_9 ?_
    refine lv_iconst (v := 0) M.1 M.2.1 dX0_watch_12 (by decide) ?_
    refine x_ialdL M K hB (hq.a1) (k := 0) (by decide) (by decide) dX0_watch_13 ?_
    refine lv_icmp_ge (tgt := 19) M.1 M.2.1 dX0_watch_14 (by decide) (fun c_2 => ?_) (fun c_2 => ?_)
    · rw [if_pos c_2] at hr
      exact w_X0_watch_19 M K hq a0  a0 _ _ _ _  hB (lv_sub hl [0, 1] rfl) hr
    · rw [if_neg c_2] at hr
      refine lv_iconst (v := 1) M.1 M.2.1 dX0_watch_17 (by decide) ?_
      exact x_iret M hB (Option.some.inj hr) dX0_watch_18
theorem c_X0_watch (l : Launch) (Γ : GG) (q : Nat) (a0 : Int32) (hq : isB q) (σ : Sg) (res : Int32 × Sg) (hr : f_X0_watch_0 q a0 σ = some res) : Met l yX0_watch (Cond.code yX0_watch cX0_watch 2 (some .int) :: gtb) rm_X0_watch (va_Pc [.ref (Γ.1 q), .int a0] (GI Γ σ)) (QI Γ res) 0 0 (AD Γ) :=
  x_metI (by decide) [.ref (Γ.1 q), .int a0] (Nat.le_of_ble_eq_true rfl) (fun p e s m args below meth c M K ls hl hB => w_X0_watch_0 M K hq a0 σ _ _ ls hB hl hr)
abbrev rm_X0_tickRunning : Room := { frames := 3, cells := 0, slots := 0, locals := 66 }
def f_X0_tickRunning_133 (q : Nat)   (σ : Sg) : Option (Int32 × Sg) :=
some (0, σ)
set_option maxHeartbeats 4000000 in
set_option maxRecDepth 100000 in
theorem w_X0_tickRunning_133 {p : Program} {l : Launch} {e : Env} {s : State} {m : MethodId} {args : Array Value} {below : List Frame} {meth : Method} {c : Code} {Γ : GG} {res : Int32 × Sg} (M : MX RX0 cX0_tickRunning 3 (some .boolean) p s m args meth c) (K : KK Γ s s.heap) {q : Nat} (hq : isB q)  (σ : Sg) (H : Heap) (locs : List Loc) (ls : Array Slot)  (hB : Bd Γ σ s H locs) (hl : lv_has ls 3 []) (hr : f_X0_tickRunning_133 q   σ = some res) : WI Γ rm_X0_tickRunning p l e s m args below meth c H locs res (F0 m 133 ls []) := by
  unfold f_X0_tickRunning_133 at hr
  refine lv_iconst (v := 0) M.1 M.2.1 dX0_tickRunning_133 (by decide) ?_
  exact x_zret M hB (nar_z (by decide)) (Option.some.inj hr) dX0_tickRunning_134
def f_X0_tickRunning_92 (q : Nat)  (s0 : Int32) (σ : Sg) : Option (Int32 × Sg) :=
cb (f_X0_watch_0 q s0 σ) fun v_22 σ_23 =>
if v_22 = 0 then
if σ_23 q 9 = σ_23 (q + 1) 6 then
wb (st σ_23 q 7 0) fun σ_27 =>
f_X0_tickRunning_133 q   σ_27
else
f_X0_tickRunning_133 q   σ_23
else
cb (f_X0_lowestExpired_0 q σ_23) fun v_29 σ_30 =>
cb (f_X0_fall_0 q v_22 v_29 σ_30) fun v_32 σ_33 =>
some (1, σ_33)
set_option maxHeartbeats 4000000 in
set_option maxRecDepth 100000 in
theorem w_X0_tickRunning_92 {p : Program} {l : Launch} {e : Env} {s : State} {m : MethodId} {args : Array Value} {below : List Frame} {meth : Method} {c : Code} {Γ : GG} {res : Int32 × Sg} (M : MX RX0 cX0_tickRunning 3 (some .boolean) p s m args meth c) (K : KK Γ s s.heap) {q : Nat} (hq : isB q) (s0 : Int32) (σ : Sg) (H : Heap) (locs : List Loc) (ls : Array Slot)  (hB : Bd Γ σ s H locs) (hl : lv_has ls 3 [(0, .ref (Γ.1 q))]) (hr : f_X0_tickRunning_92 q  s0 σ = some res) : WI Γ rm_X0_tickRunning p l e s m args below meth c H locs res (F0 m 92 ls [.int s0]) := by
  unfold f_X0_tickRunning_92 at hr
  refine lv_istore_n (lv' := [(1, .int s0), (0, .ref (Γ.1 q))]) M.1 M.2.1 dX0_tickRunning_92 rfl hl (by decide) rfl (fun ls hl => ?_)
  refine lv_aload_n M.1 M.2.1 dX0_tickRunning_93 rfl (lv_at hl 1 rfl) ?_
  refine lv_iload_n M.1 M.2.1 dX0_tickRunning_94 rfl (lv_at hl 0 rfl) ?_
  obtain ⟨v_22, σ_23, h_24, hr⟩ := cbd hr
  refine x_callI (x_runV M K hB hl.1 [.int s0] (rest := []) rfl (c_X0_watch l Γ q s0 hq σ (v_22, σ_23) h_24) cy_X0_watch (x_recv K hB (hq.k).2 (ent_0 (hq.k).1) rfl) wd_55 ⟨rfl, rfl, Nat.le_of_ble_eq_true rfl, Nat.le_of_ble_eq_true rfl⟩ (Nat.le_of_ble_eq_true rfl) ⟨Nat.zero_le _, Nat.zero_le _⟩ dX0_tickRunning_95) hB (fun H locs hB => ?_)
  replace hB : Bd Γ σ_23 s H locs := hB
  refine lv_istore_n (lv' := [(2, .int v_22), (1, .int s0), (0, .ref (Γ.1 q))]) M.1 M.2.1 dX0_tickRunning_98 rfl hl (by decide) rfl (fun ls hl => ?_)
  refine lv_iload_n M.1 M.2.1 dX0_tickRunning_99 rfl (lv_at hl 0 rfl) ?_
  refine lv_if_eq (tgt := 114) M.1 M.2.1 dX0_tickRunning_100 (by decide) (fun c_25 => ?_) (fun c_25 => ?_)
  · rw [if_pos c_25] at hr
    refine lv_aload_n M.1 M.2.1 dX0_tickRunning_114 rfl (lv_at hl 2 rfl) ?_
    refine x_get0 M K hB (hq.k) 9 (by decide) wd_33 (v := .int (σ_23 q 9)) rfl dX0_tickRunning_115 ?_
    refine lv_aload_n M.1 M.2.1 dX0_tickRunning_118 rfl (lv_at hl 2 rfl) ?_
    refine x_get0 M K hB (hq.k) 0 (by decide) wd_40 (v := .ref (Γ.1 (q + 1))) rfl dX0_tickRunning_119 ?_
    refine lv_bipush (v := 6) M.1 M.2.1 dX0_tickRunning_122 (by decide) ?_
    refine x_ialdL M K hB (hq.a1) (k := 6) (by decide) (by decide) dX0_tickRunning_124 ?_
    refine lv_icmp_ne (tgt := 133) M.1 M.2.1 dX0_tickRunning_125 (by decide) (fun c_26 => ?_) (fun c_26 => ?_)
    · rw [if_neg c_26] at hr
      exact w_X0_tickRunning_133 M K hq   _ _ _ _  hB (lv_sub hl [] rfl) hr
    · rw [if_pos c_26] at hr
      refine lv_aload_n M.1 M.2.1 dX0_tickRunning_128 rfl (lv_at hl 2 rfl) ?_
      refine lv_iconst (v := 0) M.1 M.2.1 dX0_tickRunning_129 (by decide) ?_
      obtain ⟨σ_27, e_28, hr⟩ := wbd hr
      refine x_put0 M K hB (hq.k) 7 (by decide) wd_46 dX0_tickRunning_130 (fun H locs hB => ?_)
      rw [← e_28] at hB
      exact w_X0_tickRunning_133 M K hq   _ _ _ _  hB (lv_sub hl [] rfl) hr
  · rw [if_neg c_25] at hr
    refine lv_aload_n M.1 M.2.1 dX0_tickRunning_103 rfl (lv_at hl 2 rfl) ?_
    refine lv_iload_n M.1 M.2.1 dX0_tickRunning_104 rfl (lv_at hl 0 rfl) ?_
    refine lv_aload_n M.1 M.2.1 dX0_tickRunning_105 rfl (lv_at hl 2 rfl) ?_
    obtain ⟨v_29, σ_30, h_31, hr⟩ := cbd hr
    refine x_callI (x_runV M K hB hl.1 [] (rest := [.int v_22, .ref (Γ.1 q)]) rfl (c_X0_lowestExpired l Γ q hq σ_23 (v_29, σ_30) h_31) cy_X0_lowestExpired (x_recv K hB (hq.k).2 (ent_0 (hq.k).1) rfl) wd_49 ⟨rfl, rfl, Nat.le_of_ble_eq_true rfl, Nat.le_of_ble_eq_true rfl⟩ (Nat.le_of_ble_eq_true rfl) ⟨Nat.zero_le _, Nat.zero_le _⟩ dX0_tickRunning_106) hB (fun H locs hB => ?_)
    replace hB : Bd Γ σ_30 s H locs := hB
    obtain ⟨v_32, σ_33, h_34, hr⟩ := cbd hr
    refine x_callV (x_runV M K hB hl.1 [.int v_22, .int v_29] (rest := []) rfl (c_X0_fall l Γ q v_22 v_29 hq σ_30 (v_32, σ_33) h_34) cy_X0_fall (x_recv K hB (hq.k).2 (ent_0 (hq.k).1) rfl) wd_54 ⟨rfl, rfl, Nat.le_of_ble_eq_true rfl, Nat.le_of_ble_eq_true rfl⟩ (Nat.le_of_ble_eq_true rfl) ⟨Nat.zero_le _, Nat.zero_le _⟩ dX0_tickRunning_109) hB (fun H locs hB => ?_)
    replace hB : Bd Γ σ_33 s H locs := hB
    refine lv_iconst (v := 1) M.1 M.2.1 dX0_tickRunning_112 (by decide) ?_
    exact x_zret M hB (nar_z (by decide)) (Option.some.inj hr) dX0_tickRunning_113
def f_X0_tickRunning_91 (q : Nat)   (σ : Sg) : Option (Int32 × Sg) :=
f_X0_tickRunning_92 q  0 σ
set_option maxHeartbeats 4000000 in
set_option maxRecDepth 100000 in
theorem w_X0_tickRunning_91 {p : Program} {l : Launch} {e : Env} {s : State} {m : MethodId} {args : Array Value} {below : List Frame} {meth : Method} {c : Code} {Γ : GG} {res : Int32 × Sg} (M : MX RX0 cX0_tickRunning 3 (some .boolean) p s m args meth c) (K : KK Γ s s.heap) {q : Nat} (hq : isB q)  (σ : Sg) (H : Heap) (locs : List Loc) (ls : Array Slot)  (hB : Bd Γ σ s H locs) (hl : lv_has ls 3 [(0, .ref (Γ.1 q))]) (hr : f_X0_tickRunning_91 q   σ = some res) : WI Γ rm_X0_tickRunning p l e s m args below meth c H locs res (F0 m 91 ls []) := by
  unfold f_X0_tickRunning_91 at hr
  refine lv_iconst (v := 0) M.1 M.2.1 dX0_tickRunning_91 (by decide) ?_
  exact w_X0_tickRunning_92 M K hq  0 _ _ _ _  hB (lv_sub hl [0] rfl) hr
def f_X0_tickRunning_22 (q : Nat)  : Nat → Int32 → Sg → Option (Int32 × Sg)
  | 0, _, _ => none
  | f + 1, x1, σ => if σ q 3 ≤ x1 then
cb (f_X4_divides_0 (σ (q + 1) 2) (σ q 9) σ) fun v_6 σ_7 =>
if v_6 = 0 then
f_X0_tickRunning_91 q   σ_7
else
cb (f_X0_supervise_0 q σ_7) fun v_10 σ_11 =>
if v_10 = 0 then
f_X0_tickRunning_91 q   σ_11
else
f_X0_tickRunning_92 q  1 σ_11
else
if x1 < 0 ∨ 6 ≤ x1.toNatClampNeg then none else
cb (f_X3_crashesInTick_0 (q + 2 + 3 + 5 * x1.toNatClampNeg) (σ q 9) (σ q 6) σ) fun v_15 σ_16 =>
if v_15 = 0 then
f_X0_tickRunning_22 q  f (x1 + 1) σ_16
else
cb (f_X0_fall_0 q 3 x1 σ_16) fun v_19 σ_20 =>
some (1, σ_20)
set_option maxHeartbeats 4000000 in
set_option maxRecDepth 100000 in
theorem w_X0_tickRunning_22 {p : Program} {l : Launch} {e : Env} {s : State} {m : MethodId} {args : Array Value} {below : List Frame} {meth : Method} {c : Code} {Γ : GG} {res : Int32 × Sg} (M : MX RX0 cX0_tickRunning 3 (some .boolean) p s m args meth c) (K : KK Γ s s.heap) {q : Nat} (hq : isB q) : ∀ (f : Nat) (x1 : Int32) (σ : Sg) (H : Heap) (locs : List Loc) (ls : Array Slot)  (hB : Bd Γ σ s H locs) (hl : lv_has ls 3 [(0, .ref (Γ.1 q)), (1, .int x1)]) (hr : f_X0_tickRunning_22 q  f x1 σ = some res), WI Γ rm_X0_tickRunning p l e s m args below meth c H locs res (F0 m 22 ls []) := by
  intro f
  induction f with
  | zero => intros; rename_i hr; exact absurd hr (by rw [f_X0_tickRunning_22]; exact fun h => by cases h)
  | succ f ih_22 =>
    intro x1 σ H locs ls  hB hl hr
    rw [f_X0_tickRunning_22] at hr
    refine lv_iload_n M.1 M.2.1 dX0_tickRunning_22 rfl (lv_at hl 1 rfl) ?_
    refine lv_aload_n M.1 M.2.1 dX0_tickRunning_23 rfl (lv_at hl 0 rfl) ?_
    refine x_get0 M K hB (hq.k) 3 (by decide) wd_37 (v := .int (σ q 3)) rfl dX0_tickRunning_24 ?_
    refine lv_icmp_ge (tgt := 64) M.1 M.2.1 dX0_tickRunning_27 (by decide) (fun c_5 => ?_) (fun c_5 => ?_)
    · rw [if_pos c_5] at hr
      refine lv_aload_n M.1 M.2.1 dX0_tickRunning_64 rfl (lv_at hl 0 rfl) ?_
      refine x_get0 M K hB (hq.k) 0 (by decide) wd_40 (v := .ref (Γ.1 (q + 1))) rfl dX0_tickRunning_65 ?_
      refine lv_iconst (v := 2) M.1 M.2.1 dX0_tickRunning_68 (by decide) ?_
      refine x_ialdL M K hB (hq.a1) (k := 2) (by decide) (by decide) dX0_tickRunning_69 ?_
      refine lv_aload_n M.1 M.2.1 dX0_tickRunning_70 rfl (lv_at hl 0 rfl) ?_
      refine x_get0 M K hB (hq.k) 9 (by decide) wd_33 (v := .int (σ q 9)) rfl dX0_tickRunning_71 ?_
      obtain ⟨v_6, σ_7, h_8, hr⟩ := cbd hr
      refine x_callI (x_runSN M K hB hl.1 [.int (σ (q + 1) 2), .int (σ q 9)] (rest := []) rfl (c_X4_divides l Γ (σ (q + 1) 2) (σ q 9)  σ (v_6, σ_7) h_8) cy_X4_divides nw_4 ⟨rfl, rfl, Nat.le_of_ble_eq_true rfl, Nat.le_of_ble_eq_true rfl⟩ (Nat.le_of_ble_eq_true rfl) ⟨Nat.zero_le _, Nat.zero_le _⟩ dX0_tickRunning_74) hB (fun H locs hB => ?_)
      replace hB : Bd Γ σ_7 s H locs := hB
      refine lv_if_eq (tgt := 91) M.1 M.2.1 dX0_tickRunning_77 (by decide) (fun c_9 => ?_) (fun c_9 => ?_)
      · rw [if_pos c_9] at hr
        exact w_X0_tickRunning_91 M K hq   _ _ _ _  hB (lv_sub hl [0] rfl) hr
      · rw [if_neg c_9] at hr
        refine lv_aload_n M.1 M.2.1 dX0_tickRunning_80 rfl (lv_at hl 0 rfl) ?_
        obtain ⟨v_10, σ_11, h_12, hr⟩ := cbd hr
        refine x_callI (x_runV M K hB hl.1 [] (rest := []) rfl (c_X0_supervise l Γ q hq σ_7 (v_10, σ_11) h_12) cy_X0_supervise (x_recv K hB (hq.k).2 (ent_0 (hq.k).1) rfl) wd_52 ⟨rfl, rfl, Nat.le_of_ble_eq_true rfl, Nat.le_of_ble_eq_true rfl⟩ (Nat.le_of_ble_eq_true rfl) ⟨Nat.zero_le _, Nat.zero_le _⟩ dX0_tickRunning_81) hB (fun H locs hB => ?_)
        replace hB : Bd Γ σ_11 s H locs := hB
        refine lv_if_eq (tgt := 91) M.1 M.2.1 dX0_tickRunning_84 (by decide) (fun c_13 => ?_) (fun c_13 => ?_)
        · rw [if_pos c_13] at hr
          exact w_X0_tickRunning_91 M K hq   _ _ _ _  hB (lv_sub hl [0] rfl) hr
        · rw [if_neg c_13] at hr
          refine lv_iconst (v := 1) M.1 M.2.1 dX0_tickRunning_87 (by decide) ?_
          refine lv_goto (tgt := 92) M.1 M.2.1 dX0_tickRunning_88 (by decide) ?_
          exact w_X0_tickRunning_92 M K hq  1 _ _ _ _  hB (lv_sub hl [0] rfl) hr
    · rw [if_neg c_5] at hr
      refine lv_aload_n M.1 M.2.1 dX0_tickRunning_30 rfl (lv_at hl 0 rfl) ?_
      refine x_get0 M K hB (hq.k) 1 (by decide) wd_38 (v := .ref (Γ.1 (q + 2))) rfl dX0_tickRunning_31 ?_
      refine lv_iload_n M.1 M.2.1 dX0_tickRunning_34 rfl (lv_at hl 1 rfl) ?_
      obtain ⟨g_14, hr⟩ := gd hr
      refine x_aaldT M K hB (hq.k2) g_14 dX0_tickRunning_35 ?_
      refine lv_aload_n M.1 M.2.1 dX0_tickRunning_36 rfl (lv_at hl 0 rfl) ?_
      refine x_get0 M K hB (hq.k) 9 (by decide) wd_33 (v := .int (σ q 9)) rfl dX0_tickRunning_37 ?_
      refine lv_aload_n M.1 M.2.1 dX0_tickRunning_40 rfl (lv_at hl 0 rfl) ?_
      refine x_get0 M K hB (hq.k) 6 (by decide) wd_43 (v := .int (σ q 6)) rfl dX0_tickRunning_41 ?_
      obtain ⟨v_15, σ_16, h_17, hr⟩ := cbd hr
      refine x_callI (x_runV M K hB hl.1 [.int (σ q 9), .int (σ q 6)] (rest := []) rfl (c_X3_crashesInTick l Γ (q + 2 + 3 + 5 * x1.toNatClampNeg) (σ q 9) (σ q 6) (isB.t hq (vp_lt g_14)) σ (v_15, σ_16) h_17) cy_X3_crashesInTick (x_recv K hB ((isB.t hq (vp_lt g_14)).k).2 (ent_3 ((isB.t hq (vp_lt g_14)).k).1) rfl) wd_53 ⟨rfl, rfl, Nat.le_of_ble_eq_true rfl, Nat.le_of_ble_eq_true rfl⟩ (Nat.le_of_ble_eq_true rfl) ⟨Nat.zero_le _, Nat.zero_le _⟩ dX0_tickRunning_44) hB (fun H locs hB => ?_)
      replace hB : Bd Γ σ_16 s H locs := hB
      refine lv_if_eq (tgt := 58) M.1 M.2.1 dX0_tickRunning_47 (by decide) (fun c_18 => ?_) (fun c_18 => ?_)
      · rw [if_pos c_18] at hr
        refine lv_iinc (v := x1 + 1) (lv' := [(1, .int (x1 + 1)), (0, .ref (Γ.1 q))]) M.1 M.2.1 dX0_tickRunning_58 hl (k := 1) rfl rfl (by decide) rfl (fun ls hl => ?_)
        refine lv_goto (tgt := 22) M.1 M.2.1 dX0_tickRunning_61 (by decide) ?_
        exact ih_22 (x1 + 1) _ _ _ _  hB (lv_sub hl [1, 0] rfl) hr
      · rw [if_neg c_18] at hr
        refine lv_aload_n M.1 M.2.1 dX0_tickRunning_50 rfl (lv_at hl 0 rfl) ?_
        refine lv_iconst (v := 3) M.1 M.2.1 dX0_tickRunning_51 (by decide) ?_
        refine lv_iload_n M.1 M.2.1 dX0_tickRunning_52 rfl (lv_at hl 1 rfl) ?_
        obtain ⟨v_19, σ_20, h_21, hr⟩ := cbd hr
        refine x_callV (x_runV M K hB hl.1 [.int 3, .int x1] (rest := []) rfl (c_X0_fall l Γ q 3 x1 hq σ_16 (v_19, σ_20) h_21) cy_X0_fall (x_recv K hB (hq.k).2 (ent_0 (hq.k).1) rfl) wd_54 ⟨rfl, rfl, Nat.le_of_ble_eq_true rfl, Nat.le_of_ble_eq_true rfl⟩ (Nat.le_of_ble_eq_true rfl) ⟨Nat.zero_le _, Nat.zero_le _⟩ dX0_tickRunning_53) hB (fun H locs hB => ?_)
        replace hB : Bd Γ σ_20 s H locs := hB
        refine lv_iconst (v := 1) M.1 M.2.1 dX0_tickRunning_56 (by decide) ?_
        exact x_zret M hB (nar_z (by decide)) (Option.some.inj hr) dX0_tickRunning_57
def f_X0_tickRunning_0 (q : Nat)   (σ : Sg) : Option (Int32 × Sg) :=
wb (st σ q 9 ((σ q 9) + 1)) fun σ_1 =>
wb (st σ_1 q 10 ((σ_1 q 10) + 1)) fun σ_3 =>
f_X0_tickRunning_22 q  FU 0 σ_3
set_option maxHeartbeats 4000000 in
set_option maxRecDepth 100000 in
theorem w_X0_tickRunning_0 {p : Program} {l : Launch} {e : Env} {s : State} {m : MethodId} {args : Array Value} {below : List Frame} {meth : Method} {c : Code} {Γ : GG} {res : Int32 × Sg} (M : MX RX0 cX0_tickRunning 3 (some .boolean) p s m args meth c) (K : KK Γ s s.heap) {q : Nat} (hq : isB q)  (σ : Sg) (H : Heap) (locs : List Loc) (ls : Array Slot)  (hB : Bd Γ σ s H locs) (hl : lv_has ls 3 [(0, .ref (Γ.1 q))]) (hr : f_X0_tickRunning_0 q   σ = some res) : WI Γ rm_X0_tickRunning p l e s m args below meth c H locs res (F0 m 0 ls []) := by
  unfold f_X0_tickRunning_0 at hr
  refine lv_aload_n M.1 M.2.1 dX0_tickRunning_0 rfl (lv_at hl 0 rfl) ?_
  refine lv_dup M.1 M.2.1 dX0_tickRunning_1 rfl ?_
  refine x_get0 M K hB (hq.k) 9 (by decide) wd_33 (v := .int (σ q 9)) rfl dX0_tickRunning_2 ?_
  refine lv_iconst (v := 1) M.1 M.2.1 dX0_tickRunning_5 (by decide) ?_
  refine lv_iadd M.1 M.2.1 dX0_tickRunning_6 ?_
  obtain ⟨σ_1, e_2, hr⟩ := wbd hr
  refine x_put0 M K hB (hq.k) 9 (by decide) wd_33 dX0_tickRunning_7 (fun H locs hB => ?_)
  rw [← e_2] at hB
  refine lv_aload_n M.1 M.2.1 dX0_tickRunning_10 rfl (lv_at hl 0 rfl) ?_
  refine lv_dup M.1 M.2.1 dX0_tickRunning_11 rfl ?_
  refine x_get0 M K hB (hq.k) 10 (by decide) wd_34 (v := .int (σ_1 q 10)) rfl dX0_tickRunning_12 ?_
  refine lv_iconst (v := 1) M.1 M.2.1 dX0_tickRunning_15 (by decide) ?_
  refine lv_iadd M.1 M.2.1 dX0_tickRunning_16 ?_
  obtain ⟨σ_3, e_4, hr⟩ := wbd hr
  refine x_put0 M K hB (hq.k) 10 (by decide) wd_34 dX0_tickRunning_17 (fun H locs hB => ?_)
  rw [← e_4] at hB
  refine lv_iconst (v := 0) M.1 M.2.1 dX0_tickRunning_20 (by decide) ?_
  refine lv_istore_n (lv' := [(1, .int 0), (0, .ref (Γ.1 q))]) M.1 M.2.1 dX0_tickRunning_21 rfl hl (by decide) rfl (fun ls hl => ?_)
  exact w_X0_tickRunning_22 M K hq  FU 0 _ _ _ _  hB (lv_sub hl [1, 0] rfl) hr
theorem c_X0_tickRunning (l : Launch) (Γ : GG) (q : Nat) (hq : isB q) (σ : Sg) (res : Int32 × Sg) (hr : f_X0_tickRunning_0 q σ = some res) : Met l yX0_tickRunning (Cond.code yX0_tickRunning cX0_tickRunning 3 (some .boolean) :: gtb) rm_X0_tickRunning (va_Pc [.ref (Γ.1 q)] (GI Γ σ)) (QI Γ res) 0 0 (AD Γ) :=
  x_metI (by decide) [.ref (Γ.1 q)] (Nat.le_of_ble_eq_true rfl) (fun p e s m args below meth c M K ls hl hB => w_X0_tickRunning_0 M K hq σ _ _ ls hB hl hr)
end
section
abbrev rm_X0_tick : Room := { frames := 4, cells := 0, slots := 0, locals := 88 }
def f_X0_tick_29 (q : Nat)  (x1 : Int32) (σ : Sg) : Option (Int32 × Sg) :=
wb (st σ q 4 ((σ q 4) + 1)) fun σ_9 =>
if x1 = 0 ∨ x1 = 1 then some (x1, σ_9) else none
set_option maxHeartbeats 4000000 in
set_option maxRecDepth 100000 in
theorem w_X0_tick_29 {p : Program} {l : Launch} {e : Env} {s : State} {m : MethodId} {args : Array Value} {below : List Frame} {meth : Method} {c : Code} {Γ : GG} {res : Int32 × Sg} (M : MX RX0 cX0_tick 2 (some .boolean) p s m args meth c) (K : KK Γ s s.heap) {q : Nat} (hq : isB q) (x1 : Int32) (σ : Sg) (H : Heap) (locs : List Loc) (ls : Array Slot)  (hB : Bd Γ σ s H locs) (hl : lv_has ls 2 [(0, .ref (Γ.1 q)), (1, .int x1)]) (hr : f_X0_tick_29 q  x1 σ = some res) : WI Γ rm_X0_tick p l e s m args below meth c H locs res (F0 m 29 ls []) := by
  unfold f_X0_tick_29 at hr
  refine lv_aload_n M.1 M.2.1 dX0_tick_29 rfl (lv_at hl 0 rfl) ?_
  refine lv_dup M.1 M.2.1 dX0_tick_30 rfl ?_
  refine x_get0 M K hB (hq.k) 4 (by decide) wd_42 (v := .int (σ q 4)) rfl dX0_tick_31 ?_
  refine lv_iconst (v := 1) M.1 M.2.1 dX0_tick_34 (by decide) ?_
  refine lv_iadd M.1 M.2.1 dX0_tick_35 ?_
  obtain ⟨σ_9, e_10, hr⟩ := wbd hr
  refine x_put0 M K hB (hq.k) 4 (by decide) wd_42 dX0_tick_36 (fun H locs hB => ?_)
  rw [← e_10] at hB
  refine lv_iload_n M.1 M.2.1 dX0_tick_39 rfl (lv_at hl 1 rfl) ?_
  obtain ⟨g_11, hr⟩ := gd2 hr
  exact x_zret M hB (nar_z g_11) (Option.some.inj hr) dX0_tick_40
def f_X0_tick_0 (q : Nat)   (σ : Sg) : Option (Int32 × Sg) :=
if σ q 5 = 0 then
cb (f_X0_tickBooting_0 q σ) fun v_6 σ_7 =>
f_X0_tick_29 q  0 σ_7
else
if σ q 5 = 1 then
cb (f_X0_tickRunning_0 q σ) fun v_3 σ_4 =>
f_X0_tick_29 q  v_3 σ_4
else
f_X0_tick_29 q  0 σ
set_option maxHeartbeats 4000000 in
set_option maxRecDepth 100000 in
theorem w_X0_tick_0 {p : Program} {l : Launch} {e : Env} {s : State} {m : MethodId} {args : Array Value} {below : List Frame} {meth : Method} {c : Code} {Γ : GG} {res : Int32 × Sg} (M : MX RX0 cX0_tick 2 (some .boolean) p s m args meth c) (K : KK Γ s s.heap) {q : Nat} (hq : isB q)  (σ : Sg) (H : Heap) (locs : List Loc) (ls : Array Slot)  (hB : Bd Γ σ s H locs) (hl : lv_has ls 2 [(0, .ref (Γ.1 q))]) (hr : f_X0_tick_0 q   σ = some res) : WI Γ rm_X0_tick p l e s m args below meth c H locs res (F0 m 0 ls []) := by
  unfold f_X0_tick_0 at hr
  refine lv_iconst (v := 0) M.1 M.2.1 dX0_tick_0 (by decide) ?_
  refine lv_istore_n (lv' := [(1, .int 0), (0, .ref (Γ.1 q))]) M.1 M.2.1 dX0_tick_1 rfl hl (by decide) rfl (fun ls hl => ?_)
  refine lv_aload_n M.1 M.2.1 dX0_tick_2 rfl (lv_at hl 1 rfl) ?_
  refine x_get0 M K hB (hq.k) 5 (by decide) wd_32 (v := .int (σ q 5)) rfl dX0_tick_3 ?_
  refine lv_if_ne (tgt := 16) M.1 M.2.1 dX0_tick_6 (by decide) (fun c_1 => ?_) (fun c_1 => ?_)
  · rw [if_neg c_1] at hr
    refine lv_aload_n M.1 M.2.1 dX0_tick_16 rfl (lv_at hl 1 rfl) ?_
    refine x_get0 M K hB (hq.k) 5 (by decide) wd_32 (v := .int (σ q 5)) rfl dX0_tick_17 ?_
    refine lv_iconst (v := 1) M.1 M.2.1 dX0_tick_20 (by decide) ?_
    refine lv_icmp_ne (tgt := 29) M.1 M.2.1 dX0_tick_21 (by decide) (fun c_2 => ?_) (fun c_2 => ?_)
    · rw [if_neg c_2] at hr
      exact w_X0_tick_29 M K hq  0 _ _ _ _  hB (lv_sub hl [1, 0] rfl) hr
    · rw [if_pos c_2] at hr
      refine lv_aload_n M.1 M.2.1 dX0_tick_24 rfl (lv_at hl 1 rfl) ?_
      obtain ⟨v_3, σ_4, h_5, hr⟩ := cbd hr
      refine x_callI (x_runV M K hB hl.1 [] (rest := []) rfl (c_X0_tickRunning l Γ q hq σ (v_3, σ_4) h_5) cy_X0_tickRunning (x_recv K hB (hq.k).2 (ent_0 (hq.k).1) rfl) wd_56 ⟨rfl, rfl, Nat.le_of_ble_eq_true rfl, Nat.le_of_ble_eq_true rfl⟩ (Nat.le_of_ble_eq_true rfl) ⟨Nat.zero_le _, Nat.zero_le _⟩ dX0_tick_25) hB (fun H locs hB => ?_)
      replace hB : Bd Γ σ_4 s H locs := hB
      refine lv_istore_n (lv' := [(1, .int v_3), (0, .ref (Γ.1 q))]) M.1 M.2.1 dX0_tick_28 rfl hl (by decide) rfl (fun ls hl => ?_)
      exact w_X0_tick_29 M K hq  v_3 _ _ _ _  hB (lv_sub hl [1, 0] rfl) hr
  · rw [if_pos c_1] at hr
    refine lv_aload_n M.1 M.2.1 dX0_tick_9 rfl (lv_at hl 1 rfl) ?_
    obtain ⟨v_6, σ_7, h_8, hr⟩ := cbd hr
    refine x_callV (x_runV M K hB hl.1 [] (rest := []) rfl (c_X0_tickBooting l Γ q hq σ (v_6, σ_7) h_8) cy_X0_tickBooting (x_recv K hB (hq.k).2 (ent_0 (hq.k).1) rfl) wd_57 ⟨rfl, rfl, Nat.le_of_ble_eq_true rfl, Nat.le_of_ble_eq_true rfl⟩ (Nat.le_of_ble_eq_true rfl) ⟨Nat.zero_le _, Nat.zero_le _⟩ dX0_tick_10) hB (fun H locs hB => ?_)
    replace hB : Bd Γ σ_7 s H locs := hB
    refine lv_goto (tgt := 29) M.1 M.2.1 dX0_tick_13 (by decide) ?_
    exact w_X0_tick_29 M K hq  0 _ _ _ _  hB (lv_sub hl [1, 0] rfl) hr
theorem c_X0_tick (l : Launch) (Γ : GG) (q : Nat) (hq : isB q) (σ : Sg) (res : Int32 × Sg) (hr : f_X0_tick_0 q σ = some res) : Met l yX0_tick (Cond.code yX0_tick cX0_tick 2 (some .boolean) :: gtb) rm_X0_tick (va_Pc [.ref (Γ.1 q)] (GI Γ σ)) (QI Γ res) 0 0 (AD Γ) :=
  x_metI (by decide) [.ref (Γ.1 q)] (Nat.le_of_ble_eq_true rfl) (fun p e s m args below meth c M K ls hl hB => w_X0_tick_0 M K hq σ _ _ ls hB hl hr)
abbrev rm_X0_switchOffAndOn : Room := { frames := 1, cells := 0, slots := 0, locals := 20 }
def f_X0_switchOffAndOn_0 (q : Nat)   (σ : Sg) : Option (Int32 × Sg) :=
wb (st σ q 6 0) fun σ_1 =>
wb (st σ_1 q 7 0) fun σ_3 =>
cb (f_X0_boot_0 q σ_3) fun v_5 σ_6 =>
some (0, σ_6)
set_option maxHeartbeats 4000000 in
set_option maxRecDepth 100000 in
theorem w_X0_switchOffAndOn_0 {p : Program} {l : Launch} {e : Env} {s : State} {m : MethodId} {args : Array Value} {below : List Frame} {meth : Method} {c : Code} {Γ : GG} {res : Int32 × Sg} (M : MX RX0 cX0_switchOffAndOn 1 none p s m args meth c) (K : KK Γ s s.heap) {q : Nat} (hq : isB q)  (σ : Sg) (H : Heap) (locs : List Loc) (ls : Array Slot)  (hB : Bd Γ σ s H locs) (hl : lv_has ls 1 [(0, .ref (Γ.1 q))]) (hr : f_X0_switchOffAndOn_0 q   σ = some res) : WV Γ rm_X0_switchOffAndOn p l e s m args below meth c H locs res (F0 m 0 ls []) := by
  unfold f_X0_switchOffAndOn_0 at hr
  refine lv_aload_n M.1 M.2.1 dX0_switchOffAndOn_0 rfl (lv_at hl 0 rfl) ?_
  refine lv_iconst (v := 0) M.1 M.2.1 dX0_switchOffAndOn_1 (by decide) ?_
  obtain ⟨σ_1, e_2, hr⟩ := wbd hr
  refine x_put0 M K hB (hq.k) 6 (by decide) wd_43 dX0_switchOffAndOn_2 (fun H locs hB => ?_)
  rw [← e_2] at hB
  refine lv_aload_n M.1 M.2.1 dX0_switchOffAndOn_5 rfl (lv_at hl 0 rfl) ?_
  refine lv_iconst (v := 0) M.1 M.2.1 dX0_switchOffAndOn_6 (by decide) ?_
  obtain ⟨σ_3, e_4, hr⟩ := wbd hr
  refine x_put0 M K hB (hq.k) 7 (by decide) wd_46 dX0_switchOffAndOn_7 (fun H locs hB => ?_)
  rw [← e_4] at hB
  refine lv_aload_n M.1 M.2.1 dX0_switchOffAndOn_10 rfl (lv_at hl 0 rfl) ?_
  obtain ⟨v_5, σ_6, h_7, hr⟩ := cbd hr
  refine x_callV (x_runV M K hB hl.1 [] (rest := []) rfl (c_X0_boot l Γ q hq σ_3 (v_5, σ_6) h_7) cy_X0_boot (x_recv K hB (hq.k).2 (ent_0 (hq.k).1) rfl) wd_47 ⟨rfl, rfl, Nat.le_of_ble_eq_true rfl, Nat.le_of_ble_eq_true rfl⟩ (Nat.le_of_ble_eq_true rfl) ⟨Nat.zero_le _, Nat.zero_le _⟩ dX0_switchOffAndOn_11) hB (fun H locs hB => ?_)
  replace hB : Bd Γ σ_6 s H locs := hB
  exact x_vret M hB (Option.some.inj hr) dX0_switchOffAndOn_14
theorem c_X0_switchOffAndOn (l : Launch) (Γ : GG) (q : Nat) (hq : isB q) (σ : Sg) (res : Int32 × Sg) (hr : f_X0_switchOffAndOn_0 q σ = some res) : Met l yX0_switchOffAndOn (Cond.code yX0_switchOffAndOn cX0_switchOffAndOn 1 none :: gtb) rm_X0_switchOffAndOn (va_Pc [.ref (Γ.1 q)] (GI Γ σ)) (QV Γ res) 0 0 (AD Γ) :=
  x_metV (by decide) [.ref (Γ.1 q)] (Nat.le_of_ble_eq_true rfl) (fun p e s m args below meth c M K ls hl hB => w_X0_switchOffAndOn_0 M K hq σ _ _ ls hB hl hr)
abbrev rm_X0_ifRunning : Room := { frames := 0, cells := 0, slots := 0, locals := 0 }
def f_X0_ifRunning_13 (q : Nat) (a0 : Int32)  (s0 : Int32) (σ : Sg) : Option (Int32 × Sg) :=
some (s0, σ)
set_option maxHeartbeats 4000000 in
set_option maxRecDepth 100000 in
theorem w_X0_ifRunning_13 {p : Program} {l : Launch} {e : Env} {s : State} {m : MethodId} {args : Array Value} {below : List Frame} {meth : Method} {c : Code} {Γ : GG} {res : Int32 × Sg} (M : MX RX0 cX0_ifRunning 2 (some .int) p s m args meth c) (K : KK Γ s s.heap) {q : Nat} (hq : isB q) (a0 : Int32) (s0 : Int32) (σ : Sg) (H : Heap) (locs : List Loc) (ls : Array Slot)  (hB : Bd Γ σ s H locs) (hl : lv_has ls 2 []) (hr : f_X0_ifRunning_13 q a0  s0 σ = some res) : WI Γ rm_X0_ifRunning p l e s m args below meth c H locs res (F0 m 13 ls [.int s0]) := by
  unfold f_X0_ifRunning_13 at hr
  exact x_iret M hB (Option.some.inj hr) dX0_ifRunning_13
def f_X0_ifRunning_0 (q : Nat) (a0 : Int32)   (σ : Sg) : Option (Int32 × Sg) :=
if σ q 5 = 1 then
f_X0_ifRunning_13 q a0  a0 σ
else
f_X0_ifRunning_13 q a0  0 σ
set_option maxHeartbeats 4000000 in
set_option maxRecDepth 100000 in
theorem w_X0_ifRunning_0 {p : Program} {l : Launch} {e : Env} {s : State} {m : MethodId} {args : Array Value} {below : List Frame} {meth : Method} {c : Code} {Γ : GG} {res : Int32 × Sg} (M : MX RX0 cX0_ifRunning 2 (some .int) p s m args meth c) (K : KK Γ s s.heap) {q : Nat} (hq : isB q) (a0 : Int32)  (σ : Sg) (H : Heap) (locs : List Loc) (ls : Array Slot)  (hB : Bd Γ σ s H locs) (hl : lv_has ls 2 [(0, .ref (Γ.1 q)), (1, .int a0)]) (hr : f_X0_ifRunning_0 q a0   σ = some res) : WI Γ rm_X0_ifRunning p l e s m args below meth c H locs res (F0 m 0 ls []) := by
  unfold f_X0_ifRunning_0 at hr
  refine lv_aload_n M.1 M.2.1 dX0_ifRunning_0 rfl (lv_at hl 0 rfl) ?_
  refine x_get0 M K hB (hq.k) 5 (by decide) wd_32 (v := .int (σ q 5)) rfl dX0_ifRunning_1 ?_
  refine lv_iconst (v := 1) M.1 M.2.1 dX0_ifRunning_4 (by decide) ?_
  refine lv_icmp_ne (tgt := 12) M.1 M.2.1 dX0_ifRunning_5 (by decide) (fun c_1 => ?_) (fun c_1 => ?_)
  · rw [if_neg c_1] at hr
    refine lv_iconst (v := 0) M.1 M.2.1 dX0_ifRunning_12 (by decide) ?_
    exact w_X0_ifRunning_13 M K hq a0  0 _ _ _ _  hB (lv_sub hl [] rfl) hr
  · rw [if_pos c_1] at hr
    refine lv_iload_n M.1 M.2.1 dX0_ifRunning_8 rfl (lv_at hl 1 rfl) ?_
    refine lv_goto (tgt := 13) M.1 M.2.1 dX0_ifRunning_9 (by decide) ?_
    exact w_X0_ifRunning_13 M K hq a0  a0 _ _ _ _  hB (lv_sub hl [] rfl) hr
theorem c_X0_ifRunning (l : Launch) (Γ : GG) (q : Nat) (a0 : Int32) (hq : isB q) (σ : Sg) (res : Int32 × Sg) (hr : f_X0_ifRunning_0 q a0 σ = some res) : Met l yX0_ifRunning (Cond.code yX0_ifRunning cX0_ifRunning 2 (some .int) :: gtb) rm_X0_ifRunning (va_Pc [.ref (Γ.1 q), .int a0] (GI Γ σ)) (QI Γ res) 0 0 (AD Γ) :=
  x_metI (by decide) [.ref (Γ.1 q), .int a0] (Nat.le_of_ble_eq_true rfl) (fun p e s m args below meth c M K ls hl hB => w_X0_ifRunning_0 M K hq a0 σ _ _ ls hB hl hr)
abbrev rm_X0_expiredSet : Room := { frames := 0, cells := 0, slots := 0, locals := 0 }
def f_X0_expiredSet_30 (q : Nat) (rec_4 : Int32 → Int32 → Sg → Option (Int32 × Sg)) (x1 : Int32) (x2 : Int32) (σ : Sg) : Option (Int32 × Sg) :=
rec_4 x1 (x2 + 1) σ
set_option maxHeartbeats 4000000 in
set_option maxRecDepth 100000 in
theorem w_X0_expiredSet_30 {p : Program} {l : Launch} {e : Env} {s : State} {m : MethodId} {args : Array Value} {below : List Frame} {meth : Method} {c : Code} {Γ : GG} {res : Int32 × Sg} (M : MX RX0 cX0_expiredSet 3 (some .int) p s m args meth c) (K : KK Γ s s.heap) {q : Nat} (hq : isB q) (rec_4 : Int32 → Int32 → Sg → Option (Int32 × Sg)) (ih_4 : ∀ (x1 : Int32) (x2 : Int32) (σ : Sg) (H : Heap) (locs : List Loc) (ls : Array Slot) , Bd Γ σ s H locs → lv_has ls 3 [(0, .ref (Γ.1 q)), (1, .int x1), (2, .int x2)] → rec_4 x1 x2 σ = some res → WI Γ rm_X0_expiredSet p l e s m args below meth c H locs res (F0 m 4 ls [])) (x1 : Int32) (x2 : Int32) (σ : Sg) (H : Heap) (locs : List Loc) (ls : Array Slot)  (hB : Bd Γ σ s H locs) (hl : lv_has ls 3 [(0, .ref (Γ.1 q)), (1, .int x1), (2, .int x2)]) (hr : f_X0_expiredSet_30 q rec_4 x1 x2 σ = some res) : WI Γ rm_X0_expiredSet p l e s m args below meth c H locs res (F0 m 30 ls []) := by
  unfold f_X0_expiredSet_30 at hr
  refine lv_iinc (v := x2 + 1) (lv' := [(2, .int (x2 + 1)), (0, .ref (Γ.1 q)), (1, .int x1)]) M.1 M.2.1 dX0_expiredSet_30 hl (k := 2) rfl rfl (by decide) rfl (fun ls hl => ?_)
  refine lv_goto (tgt := 4) M.1 M.2.1 dX0_expiredSet_33 (by decide) ?_
  exact ih_4 x1 (x2 + 1) _ _ _ _  hB (lv_sub hl [1, 2, 0] rfl) hr
def f_X0_expiredSet_4 (q : Nat)  : Nat → Int32 → Int32 → Sg → Option (Int32 × Sg)
  | 0, _, _, _ => none
  | f + 1, x1, x2, σ => if σ q 3 ≤ x2 then
some (x1, σ)
else
if x2 < 0 ∨ 6 ≤ x2.toNatClampNeg then none else
if σ (q + 2 + 3 + 5 * x2.toNatClampNeg) 11 = 0 then
f_X0_expiredSet_30 q (f_X0_expiredSet_4 q  f) x1 x2 σ
else
f_X0_expiredSet_30 q (f_X0_expiredSet_4 q  f) (x1 ||| (1 <<< (x2 &&& 31))) x2 σ
set_option maxHeartbeats 4000000 in
set_option maxRecDepth 100000 in
theorem w_X0_expiredSet_4 {p : Program} {l : Launch} {e : Env} {s : State} {m : MethodId} {args : Array Value} {below : List Frame} {meth : Method} {c : Code} {Γ : GG} {res : Int32 × Sg} (M : MX RX0 cX0_expiredSet 3 (some .int) p s m args meth c) (K : KK Γ s s.heap) {q : Nat} (hq : isB q) : ∀ (f : Nat) (x1 : Int32) (x2 : Int32) (σ : Sg) (H : Heap) (locs : List Loc) (ls : Array Slot)  (hB : Bd Γ σ s H locs) (hl : lv_has ls 3 [(0, .ref (Γ.1 q)), (1, .int x1), (2, .int x2)]) (hr : f_X0_expiredSet_4 q  f x1 x2 σ = some res), WI Γ rm_X0_expiredSet p l e s m args below meth c H locs res (F0 m 4 ls []) := by
  intro f
  induction f with
  | zero => intros; rename_i hr; exact absurd hr (by rw [f_X0_expiredSet_4]; exact fun h => by cases h)
  | succ f ih_4 =>
    intro x1 x2 σ H locs ls  hB hl hr
    rw [f_X0_expiredSet_4] at hr
    refine lv_iload_n M.1 M.2.1 dX0_expiredSet_4 rfl (lv_at hl 2 rfl) ?_
    refine lv_aload_n M.1 M.2.1 dX0_expiredSet_5 rfl (lv_at hl 0 rfl) ?_
    refine x_get0 M K hB (hq.k) 3 (by decide) wd_37 (v := .int (σ q 3)) rfl dX0_expiredSet_6 ?_
    refine lv_icmp_ge (tgt := 36) M.1 M.2.1 dX0_expiredSet_9 (by decide) (fun c_1 => ?_) (fun c_1 => ?_)
    · rw [if_pos c_1] at hr
      refine lv_iload_n M.1 M.2.1 dX0_expiredSet_36 rfl (lv_at hl 1 rfl) ?_
      exact x_iret M hB (Option.some.inj hr) dX0_expiredSet_37
    · rw [if_neg c_1] at hr
      refine lv_aload_n M.1 M.2.1 dX0_expiredSet_12 rfl (lv_at hl 0 rfl) ?_
      refine x_get0 M K hB (hq.k) 1 (by decide) wd_38 (v := .ref (Γ.1 (q + 2))) rfl dX0_expiredSet_13 ?_
      refine lv_iload_n M.1 M.2.1 dX0_expiredSet_16 rfl (lv_at hl 2 rfl) ?_
      obtain ⟨g_2, hr⟩ := gd hr
      refine x_aaldT M K hB (hq.k2) g_2 dX0_expiredSet_17 ?_
      refine x_get3 M K hB ((isB.t hq (vp_lt g_2)).k) 11 (by decide) wd_48 (v := .int (σ (q + 2 + 3 + 5 * x2.toNatClampNeg) 11)) rfl dX0_expiredSet_18 ?_
      refine lv_if_eq (tgt := 30) M.1 M.2.1 dX0_expiredSet_21 (by decide) (fun c_3 => ?_) (fun c_3 => ?_)
      · rw [if_pos c_3] at hr
        exact w_X0_expiredSet_30 M K hq _ ih_4 x1 x2 _ _ _ _  hB (lv_sub hl [0, 1, 2] rfl) hr
      · rw [if_neg c_3] at hr
        refine lv_iload_n M.1 M.2.1 dX0_expiredSet_24 rfl (lv_at hl 1 rfl) ?_
        refine lv_iconst (v := 1) M.1 M.2.1 dX0_expiredSet_25 (by decide) ?_
        refine lv_iload_n M.1 M.2.1 dX0_expiredSet_26 rfl (lv_at hl 2 rfl) ?_
        refine lv_ishl M.1 M.2.1 dX0_expiredSet_27 ?_
        refine lv_ior M.1 M.2.1 dX0_expiredSet_28 ?_
        refine lv_istore_n (lv' := [(1, .int (x1 ||| (1 <<< (x2 &&& 31)))), (0, .ref (Γ.1 q)), (2, .int x2)]) M.1 M.2.1 dX0_expiredSet_29 rfl hl (by decide) rfl (fun ls hl => ?_)
        exact w_X0_expiredSet_30 M K hq _ ih_4 (x1 ||| (1 <<< (x2 &&& 31))) x2 _ _ _ _  hB (lv_sub hl [1, 0, 2] rfl) hr
def f_X0_expiredSet_0 (q : Nat)   (σ : Sg) : Option (Int32 × Sg) :=
f_X0_expiredSet_4 q  FU 0 0 σ
set_option maxHeartbeats 4000000 in
set_option maxRecDepth 100000 in
theorem w_X0_expiredSet_0 {p : Program} {l : Launch} {e : Env} {s : State} {m : MethodId} {args : Array Value} {below : List Frame} {meth : Method} {c : Code} {Γ : GG} {res : Int32 × Sg} (M : MX RX0 cX0_expiredSet 3 (some .int) p s m args meth c) (K : KK Γ s s.heap) {q : Nat} (hq : isB q)  (σ : Sg) (H : Heap) (locs : List Loc) (ls : Array Slot)  (hB : Bd Γ σ s H locs) (hl : lv_has ls 3 [(0, .ref (Γ.1 q))]) (hr : f_X0_expiredSet_0 q   σ = some res) : WI Γ rm_X0_expiredSet p l e s m args below meth c H locs res (F0 m 0 ls []) := by
  unfold f_X0_expiredSet_0 at hr
  refine lv_iconst (v := 0) M.1 M.2.1 dX0_expiredSet_0 (by decide) ?_
  refine lv_istore_n (lv' := [(1, .int 0), (0, .ref (Γ.1 q))]) M.1 M.2.1 dX0_expiredSet_1 rfl hl (by decide) rfl (fun ls hl => ?_)
  refine lv_iconst (v := 0) M.1 M.2.1 dX0_expiredSet_2 (by decide) ?_
  refine lv_istore_n (lv' := [(2, .int 0), (1, .int 0), (0, .ref (Γ.1 q))]) M.1 M.2.1 dX0_expiredSet_3 rfl hl (by decide) rfl (fun ls hl => ?_)
  exact w_X0_expiredSet_4 M K hq  FU 0 0 _ _ _ _  hB (lv_sub hl [2, 1, 0] rfl) hr
theorem c_X0_expiredSet (l : Launch) (Γ : GG) (q : Nat) (hq : isB q) (σ : Sg) (res : Int32 × Sg) (hr : f_X0_expiredSet_0 q σ = some res) : Met l yX0_expiredSet (Cond.code yX0_expiredSet cX0_expiredSet 3 (some .int) :: gtb) rm_X0_expiredSet (va_Pc [.ref (Γ.1 q)] (GI Γ σ)) (QI Γ res) 0 0 (AD Γ) :=
  x_metI (by decide) [.ref (Γ.1 q)] (Nat.le_of_ble_eq_true rfl) (fun p e s m args below meth c M K ls hl hB => w_X0_expiredSet_0 M K hq σ _ _ ls hB hl hr)
abbrev rm_X0_become : Room := { frames := 2, cells := 0, slots := 0, locals := 47 }
def f_X0_become_17 (q : Nat) (o0 : Nat)  : Nat → Int32 → Sg → Option (Int32 × Sg)
  | 0, _, _ => none
  | f + 1, x2, σ => if σ o0 3 ≤ x2 then
cb (f_X1_become_0 (q + 3) (o0 + 3) σ) fun v_4 σ_5 =>
wb (st σ_5 q 3 (σ_5 o0 3)) fun σ_7 =>
wb (st σ_7 q 4 (σ_7 o0 4)) fun σ_9 =>
wb (st σ_9 q 5 (σ_9 o0 5)) fun σ_11 =>
wb (st σ_11 q 6 (σ_11 o0 6)) fun σ_13 =>
wb (st σ_13 q 7 (σ_13 o0 7)) fun σ_15 =>
wb (st σ_15 q 8 (σ_15 o0 8)) fun σ_17 =>
wb (st σ_17 q 9 (σ_17 o0 9)) fun σ_19 =>
wb (st σ_19 q 10 (σ_19 o0 10)) fun σ_21 =>
wb (st σ_21 q 11 (σ_21 o0 11)) fun σ_23 =>
wb (st σ_23 q 12 (σ_23 o0 12)) fun σ_25 =>
some (0, σ_25)
else
if x2 < 0 ∨ 6 ≤ x2.toNatClampNeg then none else
if x2 < 0 ∨ 6 ≤ x2.toNatClampNeg then none else
cb (f_X3_become_0 (q + 2 + 3 + 5 * x2.toNatClampNeg) (o0 + 2 + 3 + 5 * x2.toNatClampNeg) σ) fun v_29 σ_30 =>
f_X0_become_17 q o0  f (x2 + 1) σ_30
set_option maxHeartbeats 4000000 in
set_option maxRecDepth 100000 in
theorem w_X0_become_17 {p : Program} {l : Launch} {e : Env} {s : State} {m : MethodId} {args : Array Value} {below : List Frame} {meth : Method} {c : Code} {Γ : GG} {res : Int32 × Sg} (M : MX RX0 cX0_become 3 none p s m args meth c) (K : KK Γ s s.heap) {q : Nat} (hq : isB q) {o0 : Nat} (ho0 : isB o0) : ∀ (f : Nat) (x2 : Int32) (σ : Sg) (H : Heap) (locs : List Loc) (ls : Array Slot)  (hB : Bd Γ σ s H locs) (hl : lv_has ls 3 [(0, .ref (Γ.1 q)), (1, .ref (Γ.1 o0)), (2, .int x2)]) (hr : f_X0_become_17 q o0  f x2 σ = some res), WV Γ rm_X0_become p l e s m args below meth c H locs res (F0 m 17 ls []) := by
  intro f
  induction f with
  | zero => intros; rename_i hr; exact absurd hr (by rw [f_X0_become_17]; exact fun h => by cases h)
  | succ f ih_17 =>
    intro x2 σ H locs ls  hB hl hr
    rw [f_X0_become_17] at hr
    refine lv_iload_n M.1 M.2.1 dX0_become_17 rfl (lv_at hl 2 rfl) ?_
    refine lv_aload_n M.1 M.2.1 dX0_become_18 rfl (lv_at hl 1 rfl) ?_
    refine x_get0 M K hB (ho0.k) 3 (by decide) wd_37 (v := .int (σ o0 3)) rfl dX0_become_19 ?_
    refine lv_icmp_ge (tgt := 46) M.1 M.2.1 dX0_become_22 (by decide) (fun c_3 => ?_) (fun c_3 => ?_)
    · rw [if_pos c_3] at hr
      refine lv_aload_n M.1 M.2.1 dX0_become_46 rfl (lv_at hl 0 rfl) ?_
      refine x_get0 M K hB (hq.k) 2 (by decide) wd_41 (v := .ref (Γ.1 (q + 3))) rfl dX0_become_47 ?_
      refine lv_aload_n M.1 M.2.1 dX0_become_50 rfl (lv_at hl 1 rfl) ?_
      refine x_get0 M K hB (ho0.k) 2 (by decide) wd_41 (v := .ref (Γ.1 (o0 + 3))) rfl dX0_become_51 ?_
      obtain ⟨v_4, σ_5, h_6, hr⟩ := cbd hr
      refine x_callV (x_runV M K hB hl.1 [.ref (Γ.1 (o0 + 3))] (rest := []) rfl (c_X1_become l Γ (q + 3) (o0 + 3) hq.bk ho0.bk σ (v_4, σ_5) h_6) cy_X1_become (x_recv K hB (hq.bk.k).2 (ent_1 (hq.bk.k).1) rfl) wd_59 ⟨rfl, rfl, Nat.le_of_ble_eq_true rfl, Nat.le_of_ble_eq_true rfl⟩ (Nat.le_of_ble_eq_true rfl) ⟨Nat.zero_le _, Nat.zero_le _⟩ dX0_become_54) hB (fun H locs hB => ?_)
      replace hB : Bd Γ σ_5 s H locs := hB
      refine lv_aload_n M.1 M.2.1 dX0_become_57 rfl (lv_at hl 0 rfl) ?_
      refine lv_aload_n M.1 M.2.1 dX0_become_58 rfl (lv_at hl 1 rfl) ?_
      refine x_get0 M K hB (ho0.k) 3 (by decide) wd_37 (v := .int (σ_5 o0 3)) rfl dX0_become_59 ?_
      obtain ⟨σ_7, e_8, hr⟩ := wbd hr
      refine x_put0 M K hB (hq.k) 3 (by decide) wd_37 dX0_become_62 (fun H locs hB => ?_)
      rw [← e_8] at hB
      refine lv_aload_n M.1 M.2.1 dX0_become_65 rfl (lv_at hl 0 rfl) ?_
      refine lv_aload_n M.1 M.2.1 dX0_become_66 rfl (lv_at hl 1 rfl) ?_
      refine x_get0 M K hB (ho0.k) 4 (by decide) wd_42 (v := .int (σ_7 o0 4)) rfl dX0_become_67 ?_
      obtain ⟨σ_9, e_10, hr⟩ := wbd hr
      refine x_put0 M K hB (hq.k) 4 (by decide) wd_42 dX0_become_70 (fun H locs hB => ?_)
      rw [← e_10] at hB
      refine lv_aload_n M.1 M.2.1 dX0_become_73 rfl (lv_at hl 0 rfl) ?_
      refine lv_aload_n M.1 M.2.1 dX0_become_74 rfl (lv_at hl 1 rfl) ?_
      refine x_get0 M K hB (ho0.k) 5 (by decide) wd_32 (v := .int (σ_9 o0 5)) rfl dX0_become_75 ?_
      obtain ⟨σ_11, e_12, hr⟩ := wbd hr
      refine x_put0 M K hB (hq.k) 5 (by decide) wd_32 dX0_become_78 (fun H locs hB => ?_)
      rw [← e_12] at hB
      refine lv_aload_n M.1 M.2.1 dX0_become_81 rfl (lv_at hl 0 rfl) ?_
      refine lv_aload_n M.1 M.2.1 dX0_become_82 rfl (lv_at hl 1 rfl) ?_
      refine x_get0 M K hB (ho0.k) 6 (by decide) wd_43 (v := .int (σ_11 o0 6)) rfl dX0_become_83 ?_
      obtain ⟨σ_13, e_14, hr⟩ := wbd hr
      refine x_put0 M K hB (hq.k) 6 (by decide) wd_43 dX0_become_86 (fun H locs hB => ?_)
      rw [← e_14] at hB
      refine lv_aload_n M.1 M.2.1 dX0_become_89 rfl (lv_at hl 0 rfl) ?_
      refine lv_aload_n M.1 M.2.1 dX0_become_90 rfl (lv_at hl 1 rfl) ?_
      refine x_get0 M K hB (ho0.k) 7 (by decide) wd_46 (v := .int (σ_13 o0 7)) rfl dX0_become_91 ?_
      obtain ⟨σ_15, e_16, hr⟩ := wbd hr
      refine x_put0 M K hB (hq.k) 7 (by decide) wd_46 dX0_become_94 (fun H locs hB => ?_)
      rw [← e_16] at hB
      refine lv_aload_n M.1 M.2.1 dX0_become_97 rfl (lv_at hl 0 rfl) ?_
      refine lv_aload_n M.1 M.2.1 dX0_become_98 rfl (lv_at hl 1 rfl) ?_
      refine x_get0 M K hB (ho0.k) 8 (by decide) wd_31 (v := .int (σ_15 o0 8)) rfl dX0_become_99 ?_
      obtain ⟨σ_17, e_18, hr⟩ := wbd hr
      refine x_put0 M K hB (hq.k) 8 (by decide) wd_31 dX0_become_102 (fun H locs hB => ?_)
      rw [← e_18] at hB
      refine lv_aload_n M.1 M.2.1 dX0_become_105 rfl (lv_at hl 0 rfl) ?_
      refine lv_aload_n M.1 M.2.1 dX0_become_106 rfl (lv_at hl 1 rfl) ?_
      refine x_get0 M K hB (ho0.k) 9 (by decide) wd_33 (v := .int (σ_17 o0 9)) rfl dX0_become_107 ?_
      obtain ⟨σ_19, e_20, hr⟩ := wbd hr
      refine x_put0 M K hB (hq.k) 9 (by decide) wd_33 dX0_become_110 (fun H locs hB => ?_)
      rw [← e_20] at hB
      refine lv_aload_n M.1 M.2.1 dX0_become_113 rfl (lv_at hl 0 rfl) ?_
      refine lv_aload_n M.1 M.2.1 dX0_become_114 rfl (lv_at hl 1 rfl) ?_
      refine x_get0 M K hB (ho0.k) 10 (by decide) wd_34 (v := .int (σ_19 o0 10)) rfl dX0_become_115 ?_
      obtain ⟨σ_21, e_22, hr⟩ := wbd hr
      refine x_put0 M K hB (hq.k) 10 (by decide) wd_34 dX0_become_118 (fun H locs hB => ?_)
      rw [← e_22] at hB
      refine lv_aload_n M.1 M.2.1 dX0_become_121 rfl (lv_at hl 0 rfl) ?_
      refine lv_aload_n M.1 M.2.1 dX0_become_122 rfl (lv_at hl 1 rfl) ?_
      refine x_get0 M K hB (ho0.k) 11 (by decide) wd_35 (v := .int (σ_21 o0 11)) rfl dX0_become_123 ?_
      obtain ⟨σ_23, e_24, hr⟩ := wbd hr
      refine x_put0 M K hB (hq.k) 11 (by decide) wd_35 dX0_become_126 (fun H locs hB => ?_)
      rw [← e_24] at hB
      refine lv_aload_n M.1 M.2.1 dX0_become_129 rfl (lv_at hl 0 rfl) ?_
      refine lv_aload_n M.1 M.2.1 dX0_become_130 rfl (lv_at hl 1 rfl) ?_
      refine x_get0 M K hB (ho0.k) 12 (by decide) wd_36 (v := .int (σ_23 o0 12)) rfl dX0_become_131 ?_
      obtain ⟨σ_25, e_26, hr⟩ := wbd hr
      refine x_put0 M K hB (hq.k) 12 (by decide) wd_36 dX0_become_134 (fun H locs hB => ?_)
      rw [← e_26] at hB
      exact x_vret M hB (Option.some.inj hr) dX0_become_137
    · rw [if_neg c_3] at hr
      refine lv_aload_n M.1 M.2.1 dX0_become_25 rfl (lv_at hl 0 rfl) ?_
      refine x_get0 M K hB (hq.k) 1 (by decide) wd_38 (v := .ref (Γ.1 (q + 2))) rfl dX0_become_26 ?_
      refine lv_iload_n M.1 M.2.1 dX0_become_29 rfl (lv_at hl 2 rfl) ?_
      obtain ⟨g_27, hr⟩ := gd hr
      refine x_aaldT M K hB (hq.k2) g_27 dX0_become_30 ?_
      refine lv_aload_n M.1 M.2.1 dX0_become_31 rfl (lv_at hl 1 rfl) ?_
      refine x_get0 M K hB (ho0.k) 1 (by decide) wd_38 (v := .ref (Γ.1 (o0 + 2))) rfl dX0_become_32 ?_
      refine lv_iload_n M.1 M.2.1 dX0_become_35 rfl (lv_at hl 2 rfl) ?_
      obtain ⟨g_28, hr⟩ := gd hr
      refine x_aaldT M K hB (ho0.k2) g_28 dX0_become_36 ?_
      obtain ⟨v_29, σ_30, h_31, hr⟩ := cbd hr
      refine x_callV (x_runV M K hB hl.1 [.ref (Γ.1 (o0 + 2 + 3 + 5 * x2.toNatClampNeg))] (rest := []) rfl (c_X3_become l Γ (q + 2 + 3 + 5 * x2.toNatClampNeg) (o0 + 2 + 3 + 5 * x2.toNatClampNeg) (isB.t hq (vp_lt g_27)) (isB.t ho0 (vp_lt g_28)) σ (v_29, σ_30) h_31) cy_X3_become (x_recv K hB ((isB.t hq (vp_lt g_27)).k).2 (ent_3 ((isB.t hq (vp_lt g_27)).k).1) rfl) wd_60 ⟨rfl, rfl, Nat.le_of_ble_eq_true rfl, Nat.le_of_ble_eq_true rfl⟩ (Nat.le_of_ble_eq_true rfl) ⟨Nat.zero_le _, Nat.zero_le _⟩ dX0_become_37) hB (fun H locs hB => ?_)
      replace hB : Bd Γ σ_30 s H locs := hB
      refine lv_iinc (v := x2 + 1) (lv' := [(2, .int (x2 + 1)), (0, .ref (Γ.1 q)), (1, .ref (Γ.1 o0))]) M.1 M.2.1 dX0_become_40 hl (k := 2) rfl rfl (by decide) rfl (fun ls hl => ?_)
      refine lv_goto (tgt := 17) M.1 M.2.1 dX0_become_43 (by decide) ?_
      exact ih_17 (x2 + 1) _ _ _ _  hB (lv_sub hl [1, 2, 0] rfl) hr
def f_X0_become_0 (q : Nat) (o0 : Nat)   (σ : Sg) : Option (Int32 × Sg) :=
wb (sr σ (q + 1) (va_cpy (σ (o0 + 1)) (σ (q + 1)) 0 0 8)) fun σ_1 =>
f_X0_become_17 q o0  FU 0 σ_1
set_option maxHeartbeats 4000000 in
set_option maxRecDepth 100000 in
theorem w_X0_become_0 {p : Program} {l : Launch} {e : Env} {s : State} {m : MethodId} {args : Array Value} {below : List Frame} {meth : Method} {c : Code} {Γ : GG} {res : Int32 × Sg} (M : MX RX0 cX0_become 3 none p s m args meth c) (K : KK Γ s s.heap) {q : Nat} (hq : isB q) {o0 : Nat} (ho0 : isB o0)  (σ : Sg) (H : Heap) (locs : List Loc) (ls : Array Slot)  (hB : Bd Γ σ s H locs) (hl : lv_has ls 3 [(0, .ref (Γ.1 q)), (1, .ref (Γ.1 o0))]) (hr : f_X0_become_0 q o0   σ = some res) : WV Γ rm_X0_become p l e s m args below meth c H locs res (F0 m 0 ls []) := by
  unfold f_X0_become_0 at hr
  refine lv_aload_n M.1 M.2.1 dX0_become_0 rfl (lv_at hl 1 rfl) ?_
  refine x_get0 M K hB (ho0.k) 0 (by decide) wd_40 (v := .ref (Γ.1 (o0 + 1))) rfl dX0_become_1 ?_
  refine lv_iconst (v := 0) M.1 M.2.1 dX0_become_4 (by decide) ?_
  refine lv_aload_n M.1 M.2.1 dX0_become_5 rfl (lv_at hl 0 rfl) ?_
  refine x_get0 M K hB (hq.k) 0 (by decide) wd_40 (v := .ref (Γ.1 (q + 1))) rfl dX0_become_6 ?_
  refine lv_iconst (v := 0) M.1 M.2.1 dX0_become_9 (by decide) ?_
  refine lv_bipush (v := 8) M.1 M.2.1 dX0_become_10 (by decide) ?_
  obtain ⟨σ_1, e_2, hr⟩ := wbd hr
  refine x_copy M K hB hl.1 (ho0.a1) (hq.a1) wd_58 wd_3 wd_4 wd_5 (by decide) (by decide) (by decide) (by decide) (by decide) (Nat.le_of_ble_eq_true rfl) (Nat.le_of_ble_eq_true rfl) dX0_become_12 (fun H locs hB => ?_)
  replace hB : Bd Γ (sr σ (q + 1) (va_cpy (σ (o0 + 1)) (σ (q + 1)) 0 0 8)) s H locs := hB
  rw [← e_2] at hB
  refine lv_iconst (v := 0) M.1 M.2.1 dX0_become_15 (by decide) ?_
  refine lv_istore_n (lv' := [(2, .int 0), (0, .ref (Γ.1 q)), (1, .ref (Γ.1 o0))]) M.1 M.2.1 dX0_become_16 rfl hl (by decide) rfl (fun ls hl => ?_)
  exact w_X0_become_17 M K hq ho0  FU 0 _ _ _ _  hB (lv_sub hl [1, 2, 0] rfl) hr
theorem c_X0_become (l : Launch) (Γ : GG) (q : Nat) (o0 : Nat) (hq : isB q) (ho0 : isB o0) (σ : Sg) (res : Int32 × Sg) (hr : f_X0_become_0 q o0 σ = some res) : Met l yX0_become (Cond.code yX0_become cX0_become 3 none :: gtb) rm_X0_become (va_Pc [.ref (Γ.1 q), .ref (Γ.1 o0)] (GI Γ σ)) (QV Γ res) 0 0 (AD Γ) :=
  x_metV (by decide) [.ref (Γ.1 q), .ref (Γ.1 o0)] (Nat.le_of_ble_eq_true rfl) (fun p e s m args below meth c M K ls hl hB => w_X0_become_0 M K hq ho0 σ _ _ ls hB hl hr)
abbrev rm_X0_ticksToReset : Room := { frames := 5, cells := 0, slots := 0, locals := 109 }
def f_X0_ticksToReset_2 (q : Nat) (a0 : Int32)  : Nat → Int32 → Int32 → Sg → Option (Int32 × Sg)
  | 0, _, _, _ => none
  | f + 1, x1, x2, σ => if x1 < x2 then
some ((-6), σ)
else
cb (f_X0_tick_0 q σ) fun v_2 σ_3 =>
if v_2 = 0 then
f_X0_ticksToReset_2 q a0  f x1 (x2 + 1) σ_3
else
some (x2, σ_3)
set_option maxHeartbeats 4000000 in
set_option maxRecDepth 100000 in
theorem w_X0_ticksToReset_2 {p : Program} {l : Launch} {e : Env} {s : State} {m : MethodId} {args : Array Value} {below : List Frame} {meth : Method} {c : Code} {Γ : GG} {res : Int32 × Sg} (M : MX RX0 cX0_ticksToReset 3 (some .int) p s m args meth c) (K : KK Γ s s.heap) {q : Nat} (hq : isB q) (a0 : Int32) : ∀ (f : Nat) (x1 : Int32) (x2 : Int32) (σ : Sg) (H : Heap) (locs : List Loc) (ls : Array Slot)  (hB : Bd Γ σ s H locs) (hl : lv_has ls 3 [(0, .ref (Γ.1 q)), (1, .int x1), (2, .int x2)]) (hr : f_X0_ticksToReset_2 q a0  f x1 x2 σ = some res), WI Γ rm_X0_ticksToReset p l e s m args below meth c H locs res (F0 m 2 ls []) := by
  intro f
  induction f with
  | zero => intros; rename_i hr; exact absurd hr (by rw [f_X0_ticksToReset_2]; exact fun h => by cases h)
  | succ f ih_2 =>
    intro x1 x2 σ H locs ls  hB hl hr
    rw [f_X0_ticksToReset_2] at hr
    refine lv_iload_n M.1 M.2.1 dX0_ticksToReset_2 rfl (lv_at hl 2 rfl) ?_
    refine lv_iload_n M.1 M.2.1 dX0_ticksToReset_3 rfl (lv_at hl 1 rfl) ?_
    refine lv_icmp_gt (tgt := 22) M.1 M.2.1 dX0_ticksToReset_4 (by decide) (fun c_1 => ?_) (fun c_1 => ?_)
    · rw [if_pos c_1] at hr
      refine lv_bipush (v := (-6)) M.1 M.2.1 dX0_ticksToReset_22 (by decide) ?_
      exact x_iret M hB (Option.some.inj hr) dX0_ticksToReset_24
    · rw [if_neg c_1] at hr
      refine lv_aload_n M.1 M.2.1 dX0_ticksToReset_7 rfl (lv_at hl 0 rfl) ?_
      obtain ⟨v_2, σ_3, h_4, hr⟩ := cbd hr
      refine x_callI (x_runV M K hB hl.1 [] (rest := []) rfl (c_X0_tick l Γ q hq σ (v_2, σ_3) h_4) cy_X0_tick (x_recv K hB (hq.k).2 (ent_0 (hq.k).1) rfl) wd_61 ⟨rfl, rfl, Nat.le_of_ble_eq_true rfl, Nat.le_of_ble_eq_true rfl⟩ (Nat.le_of_ble_eq_true rfl) ⟨Nat.zero_le _, Nat.zero_le _⟩ dX0_ticksToReset_8) hB (fun H locs hB => ?_)
      replace hB : Bd Γ σ_3 s H locs := hB
      refine lv_if_eq (tgt := 16) M.1 M.2.1 dX0_ticksToReset_11 (by decide) (fun c_5 => ?_) (fun c_5 => ?_)
      · rw [if_pos c_5] at hr
        refine lv_iinc (v := x2 + 1) (lv' := [(2, .int (x2 + 1)), (0, .ref (Γ.1 q)), (1, .int x1)]) M.1 M.2.1 dX0_ticksToReset_16 hl (k := 2) rfl rfl (by decide) rfl (fun ls hl => ?_)
        refine lv_goto (tgt := 2) M.1 M.2.1 dX0_ticksToReset_19 (by decide) ?_
        exact ih_2 x1 (x2 + 1) _ _ _ _  hB (lv_sub hl [1, 2, 0] rfl) hr
      · rw [if_neg c_5] at hr
        refine lv_iload_n M.1 M.2.1 dX0_ticksToReset_14 rfl (lv_at hl 2 rfl) ?_
        exact x_iret M hB (Option.some.inj hr) dX0_ticksToReset_15
def f_X0_ticksToReset_0 (q : Nat) (a0 : Int32)   (σ : Sg) : Option (Int32 × Sg) :=
f_X0_ticksToReset_2 q a0  FU a0 1 σ
set_option maxHeartbeats 4000000 in
set_option maxRecDepth 100000 in
theorem w_X0_ticksToReset_0 {p : Program} {l : Launch} {e : Env} {s : State} {m : MethodId} {args : Array Value} {below : List Frame} {meth : Method} {c : Code} {Γ : GG} {res : Int32 × Sg} (M : MX RX0 cX0_ticksToReset 3 (some .int) p s m args meth c) (K : KK Γ s s.heap) {q : Nat} (hq : isB q) (a0 : Int32)  (σ : Sg) (H : Heap) (locs : List Loc) (ls : Array Slot)  (hB : Bd Γ σ s H locs) (hl : lv_has ls 3 [(0, .ref (Γ.1 q)), (1, .int a0)]) (hr : f_X0_ticksToReset_0 q a0   σ = some res) : WI Γ rm_X0_ticksToReset p l e s m args below meth c H locs res (F0 m 0 ls []) := by
  unfold f_X0_ticksToReset_0 at hr
  refine lv_iconst (v := 1) M.1 M.2.1 dX0_ticksToReset_0 (by decide) ?_
  refine lv_istore_n (lv' := [(2, .int 1), (0, .ref (Γ.1 q)), (1, .int a0)]) M.1 M.2.1 dX0_ticksToReset_1 rfl hl (by decide) rfl (fun ls hl => ?_)
  exact w_X0_ticksToReset_2 M K hq a0  FU a0 1 _ _ _ _  hB (lv_sub hl [1, 2, 0] rfl) hr
theorem c_X0_ticksToReset (l : Launch) (Γ : GG) (q : Nat) (a0 : Int32) (hq : isB q) (σ : Sg) (res : Int32 × Sg) (hr : f_X0_ticksToReset_0 q a0 σ = some res) : Met l yX0_ticksToReset (Cond.code yX0_ticksToReset cX0_ticksToReset 3 (some .int) :: gtb) rm_X0_ticksToReset (va_Pc [.ref (Γ.1 q), .int a0] (GI Γ σ)) (QI Γ res) 0 0 (AD Γ) :=
  x_metI (by decide) [.ref (Γ.1 q), .int a0] (Nat.le_of_ble_eq_true rfl) (fun p e s m args below meth c M K ls hl hB => w_X0_ticksToReset_0 M K hq a0 σ _ _ ls hB hl hr)
abbrev rm_X4_isAllowed : Room := { frames := 1, cells := 0, slots := 0, locals := 22 }
def f_X4_isAllowed_34 (a0 : Int32) (a1 : Int32) (t2 : Nat) (t3 : Nat)  (s0 : Int32) (σ : Sg) : Option (Int32 × Sg) :=
if s0 = 0 ∨ s0 = 1 then some (s0, σ) else none
set_option maxHeartbeats 4000000 in
set_option maxRecDepth 100000 in
theorem w_X4_isAllowed_34 {p : Program} {l : Launch} {e : Env} {s : State} {m : MethodId} {args : Array Value} {below : List Frame} {meth : Method} {c : Code} {Γ : GG} {res : Int32 × Sg} (M : MX RX4 cX4_isAllowed 4 (some .boolean) p s m args meth c) (K : KK Γ s s.heap) (a0 : Int32) (a1 : Int32) {t2 : Nat} (ht2 : t2 < 6) {t3 : Nat} (ht3 : t3 < 6) (s0 : Int32) (σ : Sg) (H : Heap) (locs : List Loc) (ls : Array Slot)  (hB : Bd Γ σ s H locs) (hl : lv_has ls 4 []) (hr : f_X4_isAllowed_34 a0 a1 t2 t3  s0 σ = some res) : WI Γ rm_X4_isAllowed p l e s m args below meth c H locs res (F0 m 34 ls [.int s0]) := by
  unfold f_X4_isAllowed_34 at hr
  obtain ⟨g_10, hr⟩ := gd2 hr
  exact x_zret M hB (nar_z g_10) (Option.some.inj hr) dX4_isAllowed_34
def f_X4_isAllowed_33 (a0 : Int32) (a1 : Int32) (t2 : Nat) (t3 : Nat)   (σ : Sg) : Option (Int32 × Sg) :=
f_X4_isAllowed_34 a0 a1 t2 t3  0 σ
set_option maxHeartbeats 4000000 in
set_option maxRecDepth 100000 in
theorem w_X4_isAllowed_33 {p : Program} {l : Launch} {e : Env} {s : State} {m : MethodId} {args : Array Value} {below : List Frame} {meth : Method} {c : Code} {Γ : GG} {res : Int32 × Sg} (M : MX RX4 cX4_isAllowed 4 (some .boolean) p s m args meth c) (K : KK Γ s s.heap) (a0 : Int32) (a1 : Int32) {t2 : Nat} (ht2 : t2 < 6) {t3 : Nat} (ht3 : t3 < 6)  (σ : Sg) (H : Heap) (locs : List Loc) (ls : Array Slot)  (hB : Bd Γ σ s H locs) (hl : lv_has ls 4 []) (hr : f_X4_isAllowed_33 a0 a1 t2 t3   σ = some res) : WI Γ rm_X4_isAllowed p l e s m args below meth c H locs res (F0 m 33 ls []) := by
  unfold f_X4_isAllowed_33 at hr
  refine lv_iconst (v := 0) M.1 M.2.1 dX4_isAllowed_33 (by decide) ?_
  exact w_X4_isAllowed_34 M K a0 a1 ht2 ht3  0 _ _ _ _  hB (lv_sub hl [] rfl) hr
def f_X4_isAllowed_0 (a0 : Int32) (a1 : Int32) (t2 : Nat) (t3 : Nat)   (σ : Sg) : Option (Int32 × Sg) :=
if a0 < 0 then
f_X4_isAllowed_33 a0 a1 t2 t3   σ
else
if 8 ≤ a0 then
f_X4_isAllowed_33 a0 a1 t2 t3   σ
else
if 8 ≤ a0 then
f_X4_isAllowed_33 a0 a1 t2 t3   σ
else
if a0 < 0 ∨ 8 ≤ a0.toNatClampNeg then none else
if a0 < 0 ∨ 8 ≤ a0.toNatClampNeg then none else
cb (f_X4_isWithin_0 a1 (tb t2 (a0.toNatClampNeg)) (tb t3 (a0.toNatClampNeg)) σ) fun v_6 σ_7 =>
if v_6 = 0 then
f_X4_isAllowed_33 a0 a1 t2 t3   σ_7
else
f_X4_isAllowed_34 a0 a1 t2 t3  1 σ_7
set_option maxHeartbeats 4000000 in
set_option maxRecDepth 100000 in
theorem w_X4_isAllowed_0 {p : Program} {l : Launch} {e : Env} {s : State} {m : MethodId} {args : Array Value} {below : List Frame} {meth : Method} {c : Code} {Γ : GG} {res : Int32 × Sg} (M : MX RX4 cX4_isAllowed 4 (some .boolean) p s m args meth c) (K : KK Γ s s.heap) (a0 : Int32) (a1 : Int32) {t2 : Nat} (ht2 : t2 < 6) {t3 : Nat} (ht3 : t3 < 6)  (σ : Sg) (H : Heap) (locs : List Loc) (ls : Array Slot)  (hB : Bd Γ σ s H locs) (hl : lv_has ls 4 [(0, .int a0), (1, .int a1), (2, .ref (gS Γ t2)), (3, .ref (gS Γ t3))]) (hr : f_X4_isAllowed_0 a0 a1 t2 t3   σ = some res) : WI Γ rm_X4_isAllowed p l e s m args below meth c H locs res (F0 m 0 ls []) := by
  unfold f_X4_isAllowed_0 at hr
  refine lv_iload_n M.1 M.2.1 dX4_isAllowed_0 rfl (lv_at hl 0 rfl) ?_
  refine lv_if_lt (tgt := 33) M.1 M.2.1 dX4_isAllowed_1 (by decide) (fun c_1 => ?_) (fun c_1 => ?_)
  · rw [if_pos c_1] at hr
    exact w_X4_isAllowed_33 M K a0 a1 ht2 ht3   _ _ _ _  hB (lv_sub hl [] rfl) hr
  · rw [if_neg c_1] at hr
    refine lv_iload_n M.1 M.2.1 dX4_isAllowed_4 rfl (lv_at hl 0 rfl) ?_
    refine lv_aload_n M.1 M.2.1 dX4_isAllowed_5 rfl (lv_at hl 2 rfl) ?_
    refine x_tlen M K hB ht2 dX4_isAllowed_6 ?_
    refine lv_icmp_ge (tgt := 33) M.1 M.2.1 dX4_isAllowed_7 (by decide) (fun c_2 => ?_) (fun c_2 => ?_)
    · rw [if_pos c_2] at hr
      exact w_X4_isAllowed_33 M K a0 a1 ht2 ht3   _ _ _ _  hB (lv_sub hl [] rfl) hr
    · rw [if_neg c_2] at hr
      refine lv_iload_n M.1 M.2.1 dX4_isAllowed_10 rfl (lv_at hl 0 rfl) ?_
      refine lv_aload_n M.1 M.2.1 dX4_isAllowed_11 rfl (lv_at hl 3 rfl) ?_
      refine x_tlen M K hB ht3 dX4_isAllowed_12 ?_
      refine lv_icmp_ge (tgt := 33) M.1 M.2.1 dX4_isAllowed_13 (by decide) (fun c_3 => ?_) (fun c_3 => ?_)
      · rw [if_pos c_3] at hr
        exact w_X4_isAllowed_33 M K a0 a1 ht2 ht3   _ _ _ _  hB (lv_sub hl [] rfl) hr
      · rw [if_neg c_3] at hr
        refine lv_iload_n M.1 M.2.1 dX4_isAllowed_16 rfl (lv_at hl 1 rfl) ?_
        refine lv_aload_n M.1 M.2.1 dX4_isAllowed_17 rfl (lv_at hl 2 rfl) ?_
        refine lv_iload_n M.1 M.2.1 dX4_isAllowed_18 rfl (lv_at hl 0 rfl) ?_
        obtain ⟨g_4, hr⟩ := gd hr
        refine x_ti M K hB ht2 g_4 dX4_isAllowed_19 ?_
        refine lv_aload_n M.1 M.2.1 dX4_isAllowed_20 rfl (lv_at hl 3 rfl) ?_
        refine lv_iload_n M.1 M.2.1 dX4_isAllowed_21 rfl (lv_at hl 0 rfl) ?_
        obtain ⟨g_5, hr⟩ := gd hr
        refine x_ti M K hB ht3 g_5 dX4_isAllowed_22 ?_
        obtain ⟨v_6, σ_7, h_8, hr⟩ := cbd hr
        refine x_callI (x_runS M K hB hl.1 [.int a1, .int (tb t2 (a0.toNatClampNeg)), .int (tb t3 (a0.toNatClampNeg))] (rest := []) rfl (c_X4_isWithin l Γ a1 (tb t2 (a0.toNatClampNeg)) (tb t3 (a0.toNatClampNeg))  σ (v_6, σ_7) h_8) cy_X4_isWithin wd_62 ⟨rfl, rfl, Nat.le_of_ble_eq_true rfl, Nat.le_of_ble_eq_true rfl⟩ (Nat.le_of_ble_eq_true rfl) ⟨Nat.zero_le _, Nat.zero_le _⟩ dX4_isAllowed_23) hB (fun H locs hB => ?_)
        replace hB : Bd Γ σ_7 s H locs := hB
        refine lv_if_eq (tgt := 33) M.1 M.2.1 dX4_isAllowed_26 (by decide) (fun c_9 => ?_) (fun c_9 => ?_)
        · rw [if_pos c_9] at hr
          exact w_X4_isAllowed_33 M K a0 a1 ht2 ht3   _ _ _ _  hB (lv_sub hl [] rfl) hr
        · rw [if_neg c_9] at hr
          refine lv_iconst (v := 1) M.1 M.2.1 dX4_isAllowed_29 (by decide) ?_
          refine lv_goto (tgt := 34) M.1 M.2.1 dX4_isAllowed_30 (by decide) ?_
          exact w_X4_isAllowed_34 M K a0 a1 ht2 ht3  1 _ _ _ _  hB (lv_sub hl [] rfl) hr
theorem c_X4_isAllowed (l : Launch) (Γ : GG) (a0 : Int32) (a1 : Int32) (t2 : Nat) (t3 : Nat) (ht2 : t2 < 6) (ht3 : t3 < 6) (σ : Sg) (res : Int32 × Sg) (hr : f_X4_isAllowed_0 a0 a1 t2 t3 σ = some res) : Met l yX4_isAllowed (Cond.code yX4_isAllowed cX4_isAllowed 4 (some .boolean) :: gtb) rm_X4_isAllowed (va_Pc [.int a0, .int a1, .ref (gS Γ t2), .ref (gS Γ t3)] (GI Γ σ)) (QI Γ res) 0 0 (AD Γ) :=
  x_metI (by decide) [.int a0, .int a1, .ref (gS Γ t2), .ref (gS Γ t3)] (Nat.le_of_ble_eq_true rfl) (fun p e s m args below meth c M K ls hl hB => w_X4_isAllowed_0 M K a0 a1 ht2 ht3 σ _ _ ls hB hl hr)
abbrev rm_X4_rule : Room := { frames := 2, cells := 0, slots := 0, locals := 45 }
def f_X4_rule_0 (a0 : Int32) (a1 : Int32)   (σ : Sg) : Option (Int32 × Sg) :=
cb (f_X4_isAllowed_0 a0 a1 0 1 σ) fun v_1 σ_2 =>
if v_1 = 0 then
some ((-2), σ_2)
else
if a0 < 0 ∨ 8 ≤ a0.toNatClampNeg then none else
if a0 < 0 ∨ 8 ≤ a0.toNatClampNeg then none else
wb (st σ_2 2 (a0.toNatClampNeg) a1) fun σ_7 =>
some (σ_2 2 (a0.toNatClampNeg), σ_7)
set_option maxHeartbeats 4000000 in
set_option maxRecDepth 100000 in
theorem w_X4_rule_0 {p : Program} {l : Launch} {e : Env} {s : State} {m : MethodId} {args : Array Value} {below : List Frame} {meth : Method} {c : Code} {Γ : GG} {res : Int32 × Sg} (M : MX RX4 cX4_rule 4 (some .int) p s m args meth c) (K : KK Γ s s.heap) (a0 : Int32) (a1 : Int32)  (σ : Sg) (H : Heap) (locs : List Loc) (ls : Array Slot)  (hB : Bd Γ σ s H locs) (hl : lv_has ls 4 [(0, .ref (Γ.1 0)), (1, .int a0), (2, .int a1)]) (hr : f_X4_rule_0 a0 a1   σ = some res) : WI Γ rm_X4_rule p l e s m args below meth c H locs res (F0 m 0 ls []) := by
  unfold f_X4_rule_0 at hr
  refine lv_iload_n M.1 M.2.1 dX4_rule_0 rfl (lv_at hl 1 rfl) ?_
  refine lv_iload_n M.1 M.2.1 dX4_rule_1 rfl (lv_at hl 2 rfl) ?_
  refine x_gets M K hB 0 (by decide) wd_63 dX4_rule_2 ?_
  refine x_gets M K hB 1 (by decide) wd_64 dX4_rule_5 ?_
  obtain ⟨v_1, σ_2, h_3, hr⟩ := cbd hr
  refine x_callI (x_runS M K hB hl.1 [.int a0, .int a1, .ref (gS Γ 0), .ref (gS Γ 1)] (rest := []) rfl (c_X4_isAllowed l Γ a0 a1 0 1 (by decide : 0 < 6) (by decide : 1 < 6) σ (v_1, σ_2) h_3) cy_X4_isAllowed wd_65 ⟨rfl, rfl, Nat.le_of_ble_eq_true rfl, Nat.le_of_ble_eq_true rfl⟩ (Nat.le_of_ble_eq_true rfl) ⟨Nat.zero_le _, Nat.zero_le _⟩ dX4_rule_8) hB (fun H locs hB => ?_)
  replace hB : Bd Γ σ_2 s H locs := hB
  refine lv_if_ne (tgt := 17) M.1 M.2.1 dX4_rule_11 (by decide) (fun c_4 => ?_) (fun c_4 => ?_)
  · rw [if_neg c_4] at hr
    refine lv_aload_n M.1 M.2.1 dX4_rule_17 rfl (lv_at hl 0 rfl) ?_
    refine x_get4 M K hB isK_0 0 (by decide) wd_66 (v := .ref (Γ.1 1)) rfl dX4_rule_18 ?_
    refine x_get0 M K hB (isB_1.k) 0 (by decide) wd_67 (v := .ref (Γ.1 2)) rfl dX4_rule_21 ?_
    refine lv_iload_n M.1 M.2.1 dX4_rule_24 rfl (lv_at hl 1 rfl) ?_
    obtain ⟨g_5, hr⟩ := gd hr
    refine x_iald M K hB (isB_1.a1) g_5 dX4_rule_25 ?_
    refine lv_istore_n (lv' := [(3, .int (σ_2 2 (a0.toNatClampNeg))), (0, .ref (Γ.1 0)), (1, .int a0), (2, .int a1)]) M.1 M.2.1 dX4_rule_26 rfl hl (by decide) rfl (fun ls hl => ?_)
    refine lv_aload_n M.1 M.2.1 dX4_rule_27 rfl (lv_at hl 1 rfl) ?_
    refine x_get4 M K hB isK_0 0 (by decide) wd_66 (v := .ref (Γ.1 1)) rfl dX4_rule_28 ?_
    refine x_get0 M K hB (isB_1.k) 0 (by decide) wd_67 (v := .ref (Γ.1 2)) rfl dX4_rule_31 ?_
    refine lv_iload_n M.1 M.2.1 dX4_rule_34 rfl (lv_at hl 2 rfl) ?_
    refine lv_iload_n M.1 M.2.1 dX4_rule_35 rfl (lv_at hl 3 rfl) ?_
    obtain ⟨g_6, hr⟩ := gd hr
    obtain ⟨σ_7, e_8, hr⟩ := wbd hr
    refine x_iast M K hB (isB_1.a1) g_6 dX4_rule_36 (fun H locs hB => ?_)
    rw [← e_8] at hB
    refine lv_iload_n M.1 M.2.1 dX4_rule_37 rfl (lv_at hl 0 rfl) ?_
    exact x_iret M hB (Option.some.inj hr) dX4_rule_38
  · rw [if_pos c_4] at hr
    refine lv_bipush (v := (-2)) M.1 M.2.1 dX4_rule_14 (by decide) ?_
    exact x_iret M hB (Option.some.inj hr) dX4_rule_16
theorem c_X4_rule (l : Launch) (Γ : GG) (a0 : Int32) (a1 : Int32)  (σ : Sg) (res : Int32 × Sg) (hr : f_X4_rule_0 a0 a1 σ = some res) : Met l yX4_rule (Cond.code yX4_rule cX4_rule 4 (some .int) :: gtb) rm_X4_rule (va_Pc [.ref (Γ.1 0), .int a0, .int a1] (GI Γ σ)) (QI Γ res) 0 0 (AD Γ) :=
  x_metI (by decide) [.ref (Γ.1 0), .int a0, .int a1] (Nat.le_of_ble_eq_true rfl) (fun p e s m args below meth c M K ls hl hB => w_X4_rule_0 M K a0 a1 σ _ _ ls hB hl hr)
abbrev rm_X4_addTask : Room := { frames := 2, cells := 0, slots := 0, locals := 49 }
def f_X4_addTask_28 (a0 : Int32) (a1 : Int32)   (σ : Sg) : Option (Int32 × Sg) :=
some ((-2), σ)
set_option maxHeartbeats 4000000 in
set_option maxRecDepth 100000 in
theorem w_X4_addTask_28 {p : Program} {l : Launch} {e : Env} {s : State} {m : MethodId} {args : Array Value} {below : List Frame} {meth : Method} {c : Code} {Γ : GG} {res : Int32 × Sg} (M : MX RX4 cX4_addTask 4 (some .int) p s m args meth c) (K : KK Γ s s.heap) (a0 : Int32) (a1 : Int32)  (σ : Sg) (H : Heap) (locs : List Loc) (ls : Array Slot)  (hB : Bd Γ σ s H locs) (hl : lv_has ls 4 []) (hr : f_X4_addTask_28 a0 a1   σ = some res) : WI Γ rm_X4_addTask p l e s m args below meth c H locs res (F0 m 28 ls []) := by
  unfold f_X4_addTask_28 at hr
  refine lv_bipush (v := (-2)) M.1 M.2.1 dX4_addTask_28 (by decide) ?_
  exact x_iret M hB (Option.some.inj hr) dX4_addTask_30
def f_X4_addTask_0 (a0 : Int32) (a1 : Int32)   (σ : Sg) : Option (Int32 × Sg) :=
cb (f_X4_isAllowed_0 0 a0 3 4 σ) fun v_1 σ_2 =>
if v_1 = 0 then
f_X4_addTask_28 a0 a1   σ_2
else
cb (f_X4_isAllowed_0 1 a1 3 4 σ_2) fun v_5 σ_6 =>
if v_5 = 0 then
f_X4_addTask_28 a0 a1   σ_6
else
if σ_6 1 3 < 6 then
if σ_6 1 3 < 0 ∨ 6 ≤ (σ_6 1 3).toNatClampNeg then none else
cb (f_X3_becomeNew_0 (3 + 3 + 5 * (σ_6 1 3).toNatClampNeg) a0 a1 σ_6) fun v_11 σ_12 =>
wb (st σ_12 1 3 ((σ_12 1 3) + 1)) fun σ_14 =>
some (σ_6 1 3, σ_14)
else
some ((-4), σ_6)
set_option maxHeartbeats 4000000 in
set_option maxRecDepth 100000 in
theorem w_X4_addTask_0 {p : Program} {l : Launch} {e : Env} {s : State} {m : MethodId} {args : Array Value} {below : List Frame} {meth : Method} {c : Code} {Γ : GG} {res : Int32 × Sg} (M : MX RX4 cX4_addTask 4 (some .int) p s m args meth c) (K : KK Γ s s.heap) (a0 : Int32) (a1 : Int32)  (σ : Sg) (H : Heap) (locs : List Loc) (ls : Array Slot)  (hB : Bd Γ σ s H locs) (hl : lv_has ls 4 [(0, .ref (Γ.1 0)), (1, .int a0), (2, .int a1)]) (hr : f_X4_addTask_0 a0 a1   σ = some res) : WI Γ rm_X4_addTask p l e s m args below meth c H locs res (F0 m 0 ls []) := by
  unfold f_X4_addTask_0 at hr
  refine lv_iconst (v := 0) M.1 M.2.1 dX4_addTask_0 (by decide) ?_
  refine lv_iload_n M.1 M.2.1 dX4_addTask_1 rfl (lv_at hl 1 rfl) ?_
  refine x_gets M K hB 3 (by decide) wd_68 dX4_addTask_2 ?_
  refine x_gets M K hB 4 (by decide) wd_69 dX4_addTask_5 ?_
  obtain ⟨v_1, σ_2, h_3, hr⟩ := cbd hr
  refine x_callI (x_runS M K hB hl.1 [.int 0, .int a0, .ref (gS Γ 3), .ref (gS Γ 4)] (rest := []) rfl (c_X4_isAllowed l Γ 0 a0 3 4 (by decide : 3 < 6) (by decide : 4 < 6) σ (v_1, σ_2) h_3) cy_X4_isAllowed wd_65 ⟨rfl, rfl, Nat.le_of_ble_eq_true rfl, Nat.le_of_ble_eq_true rfl⟩ (Nat.le_of_ble_eq_true rfl) ⟨Nat.zero_le _, Nat.zero_le _⟩ dX4_addTask_8) hB (fun H locs hB => ?_)
  replace hB : Bd Γ σ_2 s H locs := hB
  refine lv_if_eq (tgt := 28) M.1 M.2.1 dX4_addTask_11 (by decide) (fun c_4 => ?_) (fun c_4 => ?_)
  · rw [if_pos c_4] at hr
    exact w_X4_addTask_28 M K a0 a1   _ _ _ _  hB (lv_sub hl [] rfl) hr
  · rw [if_neg c_4] at hr
    refine lv_iconst (v := 1) M.1 M.2.1 dX4_addTask_14 (by decide) ?_
    refine lv_iload_n M.1 M.2.1 dX4_addTask_15 rfl (lv_at hl 2 rfl) ?_
    refine x_gets M K hB 3 (by decide) wd_68 dX4_addTask_16 ?_
    refine x_gets M K hB 4 (by decide) wd_69 dX4_addTask_19 ?_
    obtain ⟨v_5, σ_6, h_7, hr⟩ := cbd hr
    refine x_callI (x_runS M K hB hl.1 [.int 1, .int a1, .ref (gS Γ 3), .ref (gS Γ 4)] (rest := []) rfl (c_X4_isAllowed l Γ 1 a1 3 4 (by decide : 3 < 6) (by decide : 4 < 6) σ_2 (v_5, σ_6) h_7) cy_X4_isAllowed wd_65 ⟨rfl, rfl, Nat.le_of_ble_eq_true rfl, Nat.le_of_ble_eq_true rfl⟩ (Nat.le_of_ble_eq_true rfl) ⟨Nat.zero_le _, Nat.zero_le _⟩ dX4_addTask_22) hB (fun H locs hB => ?_)
    replace hB : Bd Γ σ_6 s H locs := hB
    refine lv_if_ne (tgt := 31) M.1 M.2.1 dX4_addTask_25 (by decide) (fun c_8 => ?_) (fun c_8 => ?_)
    · rw [if_neg c_8] at hr
      refine lv_aload_n M.1 M.2.1 dX4_addTask_31 rfl (lv_at hl 0 rfl) ?_
      refine x_get4 M K hB isK_0 0 (by decide) wd_66 (v := .ref (Γ.1 1)) rfl dX4_addTask_32 ?_
      refine x_get0 M K hB (isB_1.k) 3 (by decide) wd_70 (v := .int (σ_6 1 3)) rfl dX4_addTask_35 ?_
      refine lv_bipush (v := 6) M.1 M.2.1 dX4_addTask_38 (by decide) ?_
      refine lv_icmp_lt (tgt := 46) M.1 M.2.1 dX4_addTask_40 (by decide) (fun c_9 => ?_) (fun c_9 => ?_)
      · rw [if_pos c_9] at hr
        refine lv_aload_n M.1 M.2.1 dX4_addTask_46 rfl (lv_at hl 0 rfl) ?_
        refine x_get4 M K hB isK_0 0 (by decide) wd_66 (v := .ref (Γ.1 1)) rfl dX4_addTask_47 ?_
        refine x_get0 M K hB (isB_1.k) 3 (by decide) wd_70 (v := .int (σ_6 1 3)) rfl dX4_addTask_50 ?_
        refine lv_istore_n (lv' := [(3, .int (σ_6 1 3)), (0, .ref (Γ.1 0)), (1, .int a0), (2, .int a1)]) M.1 M.2.1 dX4_addTask_53 rfl hl (by decide) rfl (fun ls hl => ?_)
        refine lv_aload_n M.1 M.2.1 dX4_addTask_54 rfl (lv_at hl 1 rfl) ?_
        refine x_get4 M K hB isK_0 0 (by decide) wd_66 (v := .ref (Γ.1 1)) rfl dX4_addTask_55 ?_
        refine x_get0 M K hB (isB_1.k) 1 (by decide) wd_71 (v := .ref (Γ.1 3)) rfl dX4_addTask_58 ?_
        refine lv_iload_n M.1 M.2.1 dX4_addTask_61 rfl (lv_at hl 0 rfl) ?_
        obtain ⟨g_10, hr⟩ := gd hr
        refine x_aaldT M K hB (isB_1.k2) g_10 dX4_addTask_62 ?_
        refine lv_iload_n M.1 M.2.1 dX4_addTask_63 rfl (lv_at hl 2 rfl) ?_
        refine lv_iload_n M.1 M.2.1 dX4_addTask_64 rfl (lv_at hl 3 rfl) ?_
        obtain ⟨v_11, σ_12, h_13, hr⟩ := cbd hr
        refine x_callV (x_runV M K hB hl.1 [.int a0, .int a1] (rest := []) rfl (c_X3_becomeNew l Γ (3 + 3 + 5 * (σ_6 1 3).toNatClampNeg) a0 a1 (isB.t isB_1 (vp_lt g_10)) σ_6 (v_11, σ_12) h_13) cy_X3_becomeNew (x_recv K hB ((isB.t isB_1 (vp_lt g_10)).k).2 (ent_3 ((isB.t isB_1 (vp_lt g_10)).k).1) rfl) wd_72 ⟨rfl, rfl, Nat.le_of_ble_eq_true rfl, Nat.le_of_ble_eq_true rfl⟩ (Nat.le_of_ble_eq_true rfl) ⟨Nat.zero_le _, Nat.zero_le _⟩ dX4_addTask_65) hB (fun H locs hB => ?_)
        replace hB : Bd Γ σ_12 s H locs := hB
        refine lv_aload_n M.1 M.2.1 dX4_addTask_68 rfl (lv_at hl 1 rfl) ?_
        refine x_get4 M K hB isK_0 0 (by decide) wd_66 (v := .ref (Γ.1 1)) rfl dX4_addTask_69 ?_
        refine lv_dup M.1 M.2.1 dX4_addTask_72 rfl ?_
        refine x_get0 M K hB (isB_1.k) 3 (by decide) wd_70 (v := .int (σ_12 1 3)) rfl dX4_addTask_73 ?_
        refine lv_iconst (v := 1) M.1 M.2.1 dX4_addTask_76 (by decide) ?_
        refine lv_iadd M.1 M.2.1 dX4_addTask_77 ?_
        obtain ⟨σ_14, e_15, hr⟩ := wbd hr
        refine x_put0 M K hB (isB_1.k) 3 (by decide) wd_70 dX4_addTask_78 (fun H locs hB => ?_)
        rw [← e_15] at hB
        refine lv_iload_n M.1 M.2.1 dX4_addTask_81 rfl (lv_at hl 0 rfl) ?_
        exact x_iret M hB (Option.some.inj hr) dX4_addTask_82
      · rw [if_neg c_9] at hr
        refine lv_bipush (v := (-4)) M.1 M.2.1 dX4_addTask_43 (by decide) ?_
        exact x_iret M hB (Option.some.inj hr) dX4_addTask_45
    · rw [if_pos c_8] at hr
      exact w_X4_addTask_28 M K a0 a1   _ _ _ _  hB (lv_sub hl [] rfl) hr
theorem c_X4_addTask (l : Launch) (Γ : GG) (a0 : Int32) (a1 : Int32)  (σ : Sg) (res : Int32 × Sg) (hr : f_X4_addTask_0 a0 a1 σ = some res) : Met l yX4_addTask (Cond.code yX4_addTask cX4_addTask 4 (some .int) :: gtb) rm_X4_addTask (va_Pc [.ref (Γ.1 0), .int a0, .int a1] (GI Γ σ)) (QI Γ res) 0 0 (AD Γ) :=
  x_metI (by decide) [.ref (Γ.1 0), .int a0, .int a1] (Nat.le_of_ble_eq_true rfl) (fun p e s m args below meth c M K ls hl hB => w_X4_addTask_0 M K a0 a1 σ _ _ ls hB hl hr)
abbrev rm_X4_hasTask : Room := { frames := 1, cells := 0, slots := 0, locals := 22 }
def f_X4_hasTask_0 (a0 : Int32)   (σ : Sg) : Option (Int32 × Sg) :=
cb (f_X4_isWithin_0 a0 0 ((σ 1 3) - 1) σ) fun v_1 σ_2 =>
if v_1 = 0 ∨ v_1 = 1 then some (v_1, σ_2) else none
set_option maxHeartbeats 4000000 in
set_option maxRecDepth 100000 in
theorem w_X4_hasTask_0 {p : Program} {l : Launch} {e : Env} {s : State} {m : MethodId} {args : Array Value} {below : List Frame} {meth : Method} {c : Code} {Γ : GG} {res : Int32 × Sg} (M : MX RX4 cX4_hasTask 2 (some .boolean) p s m args meth c) (K : KK Γ s s.heap) (a0 : Int32)  (σ : Sg) (H : Heap) (locs : List Loc) (ls : Array Slot)  (hB : Bd Γ σ s H locs) (hl : lv_has ls 2 [(0, .ref (Γ.1 0)), (1, .int a0)]) (hr : f_X4_hasTask_0 a0   σ = some res) : WI Γ rm_X4_hasTask p l e s m args below meth c H locs res (F0 m 0 ls []) := by
  unfold f_X4_hasTask_0 at hr
  refine lv_iload_n M.1 M.2.1 dX4_hasTask_0 rfl (lv_at hl 1 rfl) ?_
  refine lv_iconst (v := 0) M.1 M.2.1 dX4_hasTask_1 (by decide) ?_
  refine lv_aload_n M.1 M.2.1 dX4_hasTask_2 rfl (lv_at hl 0 rfl) ?_
  refine x_get4 M K hB isK_0 0 (by decide) wd_66 (v := .ref (Γ.1 1)) rfl dX4_hasTask_3 ?_
  refine x_get0 M K hB (isB_1.k) 3 (by decide) wd_70 (v := .int (σ 1 3)) rfl dX4_hasTask_6 ?_
  refine lv_iconst (v := 1) M.1 M.2.1 dX4_hasTask_9 (by decide) ?_
  refine lv_isub M.1 M.2.1 dX4_hasTask_10 ?_
  obtain ⟨v_1, σ_2, h_3, hr⟩ := cbd hr
  refine x_callI (x_runS M K hB hl.1 [.int a0, .int 0, .int ((σ 1 3) - 1)] (rest := []) rfl (c_X4_isWithin l Γ a0 0 ((σ 1 3) - 1)  σ (v_1, σ_2) h_3) cy_X4_isWithin wd_62 ⟨rfl, rfl, Nat.le_of_ble_eq_true rfl, Nat.le_of_ble_eq_true rfl⟩ (Nat.le_of_ble_eq_true rfl) ⟨Nat.zero_le _, Nat.zero_le _⟩ dX4_hasTask_11) hB (fun H locs hB => ?_)
  replace hB : Bd Γ σ_2 s H locs := hB
  obtain ⟨g_4, hr⟩ := gd2 hr
  exact x_zret M hB (nar_z g_4) (Option.some.inj hr) dX4_hasTask_14
theorem c_X4_hasTask (l : Launch) (Γ : GG) (a0 : Int32)  (σ : Sg) (res : Int32 × Sg) (hr : f_X4_hasTask_0 a0 σ = some res) : Met l yX4_hasTask (Cond.code yX4_hasTask cX4_hasTask 2 (some .boolean) :: gtb) rm_X4_hasTask (va_Pc [.ref (Γ.1 0), .int a0] (GI Γ σ)) (QI Γ res) 0 0 (AD Γ) :=
  x_metI (by decide) [.ref (Γ.1 0), .int a0] (Nat.le_of_ble_eq_true rfl) (fun p e s m args below meth c M K ls hl hB => w_X4_hasTask_0 M K a0 σ _ _ ls hB hl hr)
abbrev rm_X4_set : Room := { frames := 2, cells := 0, slots := 0, locals := 45 }
def f_X4_set_0 (a0 : Int32) (a1 : Int32) (a2 : Int32)   (σ : Sg) : Option (Int32 × Sg) :=
cb (f_X4_hasTask_0 a0 σ) fun v_1 σ_2 =>
if v_1 = 0 then
some ((-1), σ_2)
else
cb (f_X4_isAllowed_0 a1 a2 3 4 σ_2) fun v_5 σ_6 =>
if v_5 = 0 then
some ((-2), σ_6)
else
if a0 < 0 ∨ 6 ≤ a0.toNatClampNeg then none else
if a1 < 0 ∨ 8 ≤ a1.toNatClampNeg then none else
if a1 < 0 ∨ 8 ≤ a1.toNatClampNeg then none else
wb (st σ_6 (3 + 3 + 5 * a0.toNatClampNeg + 1) (a1.toNatClampNeg) a2) fun σ_12 =>
some (σ_6 (3 + 3 + 5 * a0.toNatClampNeg + 1) (a1.toNatClampNeg), σ_12)
set_option maxHeartbeats 4000000 in
set_option maxRecDepth 100000 in
theorem w_X4_set_0 {p : Program} {l : Launch} {e : Env} {s : State} {m : MethodId} {args : Array Value} {below : List Frame} {meth : Method} {c : Code} {Γ : GG} {res : Int32 × Sg} (M : MX RX4 cX4_set 6 (some .int) p s m args meth c) (K : KK Γ s s.heap) (a0 : Int32) (a1 : Int32) (a2 : Int32)  (σ : Sg) (H : Heap) (locs : List Loc) (ls : Array Slot)  (hB : Bd Γ σ s H locs) (hl : lv_has ls 6 [(0, .ref (Γ.1 0)), (1, .int a0), (2, .int a1), (3, .int a2)]) (hr : f_X4_set_0 a0 a1 a2   σ = some res) : WI Γ rm_X4_set p l e s m args below meth c H locs res (F0 m 0 ls []) := by
  unfold f_X4_set_0 at hr
  refine lv_aload_n M.1 M.2.1 dX4_set_0 rfl (lv_at hl 0 rfl) ?_
  refine lv_iload_n M.1 M.2.1 dX4_set_1 rfl (lv_at hl 1 rfl) ?_
  obtain ⟨v_1, σ_2, h_3, hr⟩ := cbd hr
  refine x_callI (x_runV M K hB hl.1 [.int a0] (rest := []) rfl (c_X4_hasTask l Γ a0  σ (v_1, σ_2) h_3) cy_X4_hasTask (x_recv K hB isK_0.2 (ent_4 isK_0.1) rfl) wd_73 ⟨rfl, rfl, Nat.le_of_ble_eq_true rfl, Nat.le_of_ble_eq_true rfl⟩ (Nat.le_of_ble_eq_true rfl) ⟨Nat.zero_le _, Nat.zero_le _⟩ dX4_set_2) hB (fun H locs hB => ?_)
  replace hB : Bd Γ σ_2 s H locs := hB
  refine lv_if_ne (tgt := 10) M.1 M.2.1 dX4_set_5 (by decide) (fun c_4 => ?_) (fun c_4 => ?_)
  · rw [if_neg c_4] at hr
    refine lv_iload_n M.1 M.2.1 dX4_set_10 rfl (lv_at hl 2 rfl) ?_
    refine lv_iload_n M.1 M.2.1 dX4_set_11 rfl (lv_at hl 3 rfl) ?_
    refine x_gets M K hB 3 (by decide) wd_68 dX4_set_12 ?_
    refine x_gets M K hB 4 (by decide) wd_69 dX4_set_15 ?_
    obtain ⟨v_5, σ_6, h_7, hr⟩ := cbd hr
    refine x_callI (x_runS M K hB hl.1 [.int a1, .int a2, .ref (gS Γ 3), .ref (gS Γ 4)] (rest := []) rfl (c_X4_isAllowed l Γ a1 a2 3 4 (by decide : 3 < 6) (by decide : 4 < 6) σ_2 (v_5, σ_6) h_7) cy_X4_isAllowed wd_65 ⟨rfl, rfl, Nat.le_of_ble_eq_true rfl, Nat.le_of_ble_eq_true rfl⟩ (Nat.le_of_ble_eq_true rfl) ⟨Nat.zero_le _, Nat.zero_le _⟩ dX4_set_18) hB (fun H locs hB => ?_)
    replace hB : Bd Γ σ_6 s H locs := hB
    refine lv_if_ne (tgt := 27) M.1 M.2.1 dX4_set_21 (by decide) (fun c_8 => ?_) (fun c_8 => ?_)
    · rw [if_neg c_8] at hr
      refine lv_aload_n M.1 M.2.1 dX4_set_27 rfl (lv_at hl 0 rfl) ?_
      refine x_get4 M K hB isK_0 0 (by decide) wd_66 (v := .ref (Γ.1 1)) rfl dX4_set_28 ?_
      refine x_get0 M K hB (isB_1.k) 1 (by decide) wd_71 (v := .ref (Γ.1 3)) rfl dX4_set_31 ?_
      refine lv_iload_n M.1 M.2.1 dX4_set_34 rfl (lv_at hl 1 rfl) ?_
      obtain ⟨g_9, hr⟩ := gd hr
      refine x_aaldT M K hB (isB_1.k2) g_9 dX4_set_35 ?_
      refine x_get3 M K hB ((isB.t isB_1 (vp_lt g_9)).k) 0 (by decide) wd_74 (v := .ref (Γ.1 (3 + 3 + 5 * a0.toNatClampNeg + 1))) rfl dX4_set_36 ?_
      refine lv_astore (lv' := [(4, .ref (Γ.1 (3 + 3 + 5 * a0.toNatClampNeg + 1))), (0, .ref (Γ.1 0)), (1, .int a0), (2, .int a1), (3, .int a2)]) M.1 M.2.1 dX4_set_39 hl (by decide) rfl (fun ls hl => ?_)
      refine lv_aload M.1 M.2.1 dX4_set_41 (lv_at hl 0 rfl) ?_
      refine lv_iload_n M.1 M.2.1 dX4_set_43 rfl (lv_at hl 3 rfl) ?_
      obtain ⟨g_10, hr⟩ := gd hr
      refine x_iald M K hB ((isB.t isB_1 (vp_lt g_9)).a1) g_10 dX4_set_44 ?_
      refine lv_istore (lv' := [(5, .int (σ_6 (3 + 3 + 5 * a0.toNatClampNeg + 1) (a1.toNatClampNeg))), (4, .ref (Γ.1 (3 + 3 + 5 * a0.toNatClampNeg + 1))), (0, .ref (Γ.1 0)), (1, .int a0), (2, .int a1), (3, .int a2)]) M.1 M.2.1 dX4_set_45 hl (by decide) rfl (fun ls hl => ?_)
      refine lv_aload M.1 M.2.1 dX4_set_47 (lv_at hl 1 rfl) ?_
      refine lv_iload_n M.1 M.2.1 dX4_set_49 rfl (lv_at hl 4 rfl) ?_
      refine lv_iload_n M.1 M.2.1 dX4_set_50 rfl (lv_at hl 5 rfl) ?_
      obtain ⟨g_11, hr⟩ := gd hr
      obtain ⟨σ_12, e_13, hr⟩ := wbd hr
      refine x_iast M K hB ((isB.t isB_1 (vp_lt g_9)).a1) g_11 dX4_set_51 (fun H locs hB => ?_)
      rw [← e_13] at hB
      refine lv_iload M.1 M.2.1 dX4_set_52 (lv_at hl 0 rfl) ?_
      exact x_iret M hB (Option.some.inj hr) dX4_set_54
    · rw [if_pos c_8] at hr
      refine lv_bipush (v := (-2)) M.1 M.2.1 dX4_set_24 (by decide) ?_
      exact x_iret M hB (Option.some.inj hr) dX4_set_26
  · rw [if_pos c_4] at hr
    refine lv_iconst (v := (-1)) M.1 M.2.1 dX4_set_8 (by decide) ?_
    exact x_iret M hB (Option.some.inj hr) dX4_set_9
theorem c_X4_set (l : Launch) (Γ : GG) (a0 : Int32) (a1 : Int32) (a2 : Int32)  (σ : Sg) (res : Int32 × Sg) (hr : f_X4_set_0 a0 a1 a2 σ = some res) : Met l yX4_set (Cond.code yX4_set cX4_set 6 (some .int) :: gtb) rm_X4_set (va_Pc [.ref (Γ.1 0), .int a0, .int a1, .int a2] (GI Γ σ)) (QI Γ res) 0 0 (AD Γ) :=
  x_metI (by decide) [.ref (Γ.1 0), .int a0, .int a1, .int a2] (Nat.le_of_ble_eq_true rfl) (fun p e s m args below meth c M K ls hl hB => w_X4_set_0 M K a0 a1 a2 σ _ _ ls hB hl hr)
abbrev rm_X4_putFault : Room := { frames := 2, cells := 0, slots := 0, locals := 43 }
def f_X4_putFault_52 (a0 : Int32) (a1 : Int32) (a2 : Int32) (a3 : Int32) (a4 : Int32)   (σ : Sg) : Option (Int32 × Sg) :=
some ((-2), σ)
set_option maxHeartbeats 4000000 in
set_option maxRecDepth 100000 in
theorem w_X4_putFault_52 {p : Program} {l : Launch} {e : Env} {s : State} {m : MethodId} {args : Array Value} {below : List Frame} {meth : Method} {c : Code} {Γ : GG} {res : Int32 × Sg} (M : MX RX4 cX4_putFault 7 (some .int) p s m args meth c) (K : KK Γ s s.heap) (a0 : Int32) (a1 : Int32) (a2 : Int32) (a3 : Int32) (a4 : Int32)  (σ : Sg) (H : Heap) (locs : List Loc) (ls : Array Slot)  (hB : Bd Γ σ s H locs) (hl : lv_has ls 7 []) (hr : f_X4_putFault_52 a0 a1 a2 a3 a4   σ = some res) : WI Γ rm_X4_putFault p l e s m args below meth c H locs res (F0 m 52 ls []) := by
  unfold f_X4_putFault_52 at hr
  refine lv_bipush (v := (-2)) M.1 M.2.1 dX4_putFault_52 (by decide) ?_
  exact x_iret M hB (Option.some.inj hr) dX4_putFault_54
def f_X4_putFault_17 (a0 : Int32) (a1 : Int32) (a2 : Int32) (a3 : Int32) (a4 : Int32)   (σ : Sg) : Option (Int32 × Sg) :=
some ((-1), σ)
set_option maxHeartbeats 4000000 in
set_option maxRecDepth 100000 in
theorem w_X4_putFault_17 {p : Program} {l : Launch} {e : Env} {s : State} {m : MethodId} {args : Array Value} {below : List Frame} {meth : Method} {c : Code} {Γ : GG} {res : Int32 × Sg} (M : MX RX4 cX4_putFault 7 (some .int) p s m args meth c) (K : KK Γ s s.heap) (a0 : Int32) (a1 : Int32) (a2 : Int32) (a3 : Int32) (a4 : Int32)  (σ : Sg) (H : Heap) (locs : List Loc) (ls : Array Slot)  (hB : Bd Γ σ s H locs) (hl : lv_has ls 7 []) (hr : f_X4_putFault_17 a0 a1 a2 a3 a4   σ = some res) : WI Γ rm_X4_putFault p l e s m args below meth c H locs res (F0 m 17 ls []) := by
  unfold f_X4_putFault_17 at hr
  refine lv_iconst (v := (-1)) M.1 M.2.1 dX4_putFault_17 (by decide) ?_
  exact x_iret M hB (Option.some.inj hr) dX4_putFault_18
def f_X4_putFault_0 (a0 : Int32) (a1 : Int32) (a2 : Int32) (a3 : Int32) (a4 : Int32)   (σ : Sg) : Option (Int32 × Sg) :=
cb (f_X4_isWithin_0 a0 0 1 σ) fun v_1 σ_2 =>
if v_1 = 0 then
f_X4_putFault_17 a0 a1 a2 a3 a4   σ_2
else
cb (f_X4_hasTask_0 a1 σ_2) fun v_5 σ_6 =>
if v_5 = 0 then
f_X4_putFault_17 a0 a1 a2 a3 a4   σ_6
else
cb (f_X4_isWithin_0 a2 0 5 σ_6) fun v_9 σ_10 =>
if v_9 = 0 then
f_X4_putFault_52 a0 a1 a2 a3 a4   σ_10
else
cb (f_X4_isWithin_0 a3 0 5000 σ_10) fun v_13 σ_14 =>
if v_13 = 0 then
f_X4_putFault_52 a0 a1 a2 a3 a4   σ_14
else
cb (f_X4_isWithin_0 a4 0 500 σ_14) fun v_17 σ_18 =>
if v_17 = 0 then
f_X4_putFault_52 a0 a1 a2 a3 a4   σ_18
else
if a1 < 0 ∨ 6 ≤ a1.toNatClampNeg then none else
if a0 < 0 ∨ 2 ≤ a0.toNatClampNeg then none else
if a1 < 0 ∨ 6 ≤ a1.toNatClampNeg then none else
cb (f_X3_takeFault_0 (3 + 3 + 5 * a1.toNatClampNeg) a0 a2 a3 a4 σ_18) fun v_24 σ_25 =>
some (σ_18 (3 + 3 + 5 * a1.toNatClampNeg + 2) (a0.toNatClampNeg), σ_25)
set_option maxHeartbeats 4000000 in
set_option maxRecDepth 100000 in
theorem w_X4_putFault_0 {p : Program} {l : Launch} {e : Env} {s : State} {m : MethodId} {args : Array Value} {below : List Frame} {meth : Method} {c : Code} {Γ : GG} {res : Int32 × Sg} (M : MX RX4 cX4_putFault 7 (some .int) p s m args meth c) (K : KK Γ s s.heap) (a0 : Int32) (a1 : Int32) (a2 : Int32) (a3 : Int32) (a4 : Int32)  (σ : Sg) (H : Heap) (locs : List Loc) (ls : Array Slot)  (hB : Bd Γ σ s H locs) (hl : lv_has ls 7 [(0, .ref (Γ.1 0)), (1, .int a0), (2, .int a1), (3, .int a2), (4, .int a3), (5, .int a4)]) (hr : f_X4_putFault_0 a0 a1 a2 a3 a4   σ = some res) : WI Γ rm_X4_putFault p l e s m args below meth c H locs res (F0 m 0 ls []) := by
  unfold f_X4_putFault_0 at hr
  refine lv_iload_n M.1 M.2.1 dX4_putFault_0 rfl (lv_at hl 1 rfl) ?_
  refine lv_iconst (v := 0) M.1 M.2.1 dX4_putFault_1 (by decide) ?_
  refine lv_iconst (v := 1) M.1 M.2.1 dX4_putFault_2 (by decide) ?_
  obtain ⟨v_1, σ_2, h_3, hr⟩ := cbd hr
  refine x_callI (x_runS M K hB hl.1 [.int a0, .int 0, .int 1] (rest := []) rfl (c_X4_isWithin l Γ a0 0 1  σ (v_1, σ_2) h_3) cy_X4_isWithin wd_62 ⟨rfl, rfl, Nat.le_of_ble_eq_true rfl, Nat.le_of_ble_eq_true rfl⟩ (Nat.le_of_ble_eq_true rfl) ⟨Nat.zero_le _, Nat.zero_le _⟩ dX4_putFault_3) hB (fun H locs hB => ?_)
  replace hB : Bd Γ σ_2 s H locs := hB
  refine lv_if_eq (tgt := 17) M.1 M.2.1 dX4_putFault_6 (by decide) (fun c_4 => ?_) (fun c_4 => ?_)
  · rw [if_pos c_4] at hr
    exact w_X4_putFault_17 M K a0 a1 a2 a3 a4   _ _ _ _  hB (lv_sub hl [] rfl) hr
  · rw [if_neg c_4] at hr
    refine lv_aload_n M.1 M.2.1 dX4_putFault_9 rfl (lv_at hl 0 rfl) ?_
    refine lv_iload_n M.1 M.2.1 dX4_putFault_10 rfl (lv_at hl 2 rfl) ?_
    obtain ⟨v_5, σ_6, h_7, hr⟩ := cbd hr
    refine x_callI (x_runV M K hB hl.1 [.int a1] (rest := []) rfl (c_X4_hasTask l Γ a1  σ_2 (v_5, σ_6) h_7) cy_X4_hasTask (x_recv K hB isK_0.2 (ent_4 isK_0.1) rfl) wd_73 ⟨rfl, rfl, Nat.le_of_ble_eq_true rfl, Nat.le_of_ble_eq_true rfl⟩ (Nat.le_of_ble_eq_true rfl) ⟨Nat.zero_le _, Nat.zero_le _⟩ dX4_putFault_11) hB (fun H locs hB => ?_)
    replace hB : Bd Γ σ_6 s H locs := hB
    refine lv_if_ne (tgt := 19) M.1 M.2.1 dX4_putFault_14 (by decide) (fun c_8 => ?_) (fun c_8 => ?_)
    · rw [if_neg c_8] at hr
      refine lv_iload_n M.1 M.2.1 dX4_putFault_19 rfl (lv_at hl 3 rfl) ?_
      refine lv_iconst (v := 0) M.1 M.2.1 dX4_putFault_20 (by decide) ?_
      refine lv_iconst (v := 5) M.1 M.2.1 dX4_putFault_21 (by decide) ?_
      obtain ⟨v_9, σ_10, h_11, hr⟩ := cbd hr
      refine x_callI (x_runS M K hB hl.1 [.int a2, .int 0, .int 5] (rest := []) rfl (c_X4_isWithin l Γ a2 0 5  σ_6 (v_9, σ_10) h_11) cy_X4_isWithin wd_62 ⟨rfl, rfl, Nat.le_of_ble_eq_true rfl, Nat.le_of_ble_eq_true rfl⟩ (Nat.le_of_ble_eq_true rfl) ⟨Nat.zero_le _, Nat.zero_le _⟩ dX4_putFault_22) hB (fun H locs hB => ?_)
      replace hB : Bd Γ σ_10 s H locs := hB
      refine lv_if_eq (tgt := 52) M.1 M.2.1 dX4_putFault_25 (by decide) (fun c_12 => ?_) (fun c_12 => ?_)
      · rw [if_pos c_12] at hr
        exact w_X4_putFault_52 M K a0 a1 a2 a3 a4   _ _ _ _  hB (lv_sub hl [] rfl) hr
      · rw [if_neg c_12] at hr
        refine lv_iload M.1 M.2.1 dX4_putFault_28 (lv_at hl 4 rfl) ?_
        refine lv_iconst (v := 0) M.1 M.2.1 dX4_putFault_30 (by decide) ?_
        refine lv_sipush (v := 5000) M.1 M.2.1 dX4_putFault_31 (by decide) ?_
        obtain ⟨v_13, σ_14, h_15, hr⟩ := cbd hr
        refine x_callI (x_runS M K hB hl.1 [.int a3, .int 0, .int 5000] (rest := []) rfl (c_X4_isWithin l Γ a3 0 5000  σ_10 (v_13, σ_14) h_15) cy_X4_isWithin wd_62 ⟨rfl, rfl, Nat.le_of_ble_eq_true rfl, Nat.le_of_ble_eq_true rfl⟩ (Nat.le_of_ble_eq_true rfl) ⟨Nat.zero_le _, Nat.zero_le _⟩ dX4_putFault_34) hB (fun H locs hB => ?_)
        replace hB : Bd Γ σ_14 s H locs := hB
        refine lv_if_eq (tgt := 52) M.1 M.2.1 dX4_putFault_37 (by decide) (fun c_16 => ?_) (fun c_16 => ?_)
        · rw [if_pos c_16] at hr
          exact w_X4_putFault_52 M K a0 a1 a2 a3 a4   _ _ _ _  hB (lv_sub hl [] rfl) hr
        · rw [if_neg c_16] at hr
          refine lv_iload M.1 M.2.1 dX4_putFault_40 (lv_at hl 5 rfl) ?_
          refine lv_iconst (v := 0) M.1 M.2.1 dX4_putFault_42 (by decide) ?_
          refine lv_sipush (v := 500) M.1 M.2.1 dX4_putFault_43 (by decide) ?_
          obtain ⟨v_17, σ_18, h_19, hr⟩ := cbd hr
          refine x_callI (x_runS M K hB hl.1 [.int a4, .int 0, .int 500] (rest := []) rfl (c_X4_isWithin l Γ a4 0 500  σ_14 (v_17, σ_18) h_19) cy_X4_isWithin wd_62 ⟨rfl, rfl, Nat.le_of_ble_eq_true rfl, Nat.le_of_ble_eq_true rfl⟩ (Nat.le_of_ble_eq_true rfl) ⟨Nat.zero_le _, Nat.zero_le _⟩ dX4_putFault_46) hB (fun H locs hB => ?_)
          replace hB : Bd Γ σ_18 s H locs := hB
          refine lv_if_ne (tgt := 55) M.1 M.2.1 dX4_putFault_49 (by decide) (fun c_20 => ?_) (fun c_20 => ?_)
          · rw [if_neg c_20] at hr
            refine lv_aload_n M.1 M.2.1 dX4_putFault_55 rfl (lv_at hl 0 rfl) ?_
            refine x_get4 M K hB isK_0 0 (by decide) wd_66 (v := .ref (Γ.1 1)) rfl dX4_putFault_56 ?_
            refine x_get0 M K hB (isB_1.k) 1 (by decide) wd_71 (v := .ref (Γ.1 3)) rfl dX4_putFault_59 ?_
            refine lv_iload_n M.1 M.2.1 dX4_putFault_62 rfl (lv_at hl 2 rfl) ?_
            obtain ⟨g_21, hr⟩ := gd hr
            refine x_aaldT M K hB (isB_1.k2) g_21 dX4_putFault_63 ?_
            refine x_get3 M K hB ((isB.t isB_1 (vp_lt g_21)).k) 1 (by decide) wd_75 (v := .ref (Γ.1 (3 + 3 + 5 * a1.toNatClampNeg + 2))) rfl dX4_putFault_64 ?_
            refine lv_iload_n M.1 M.2.1 dX4_putFault_67 rfl (lv_at hl 1 rfl) ?_
            obtain ⟨g_22, hr⟩ := gd hr
            refine x_iald M K hB ((isB.t isB_1 (vp_lt g_21)).a2) g_22 dX4_putFault_68 ?_
            refine lv_istore (lv' := [(6, .int (σ_18 (3 + 3 + 5 * a1.toNatClampNeg + 2) (a0.toNatClampNeg))), (0, .ref (Γ.1 0)), (1, .int a0), (2, .int a1), (3, .int a2), (4, .int a3), (5, .int a4)]) M.1 M.2.1 dX4_putFault_69 hl (by decide) rfl (fun ls hl => ?_)
            refine lv_aload_n M.1 M.2.1 dX4_putFault_71 rfl (lv_at hl 1 rfl) ?_
            refine x_get4 M K hB isK_0 0 (by decide) wd_66 (v := .ref (Γ.1 1)) rfl dX4_putFault_72 ?_
            refine x_get0 M K hB (isB_1.k) 1 (by decide) wd_71 (v := .ref (Γ.1 3)) rfl dX4_putFault_75 ?_
            refine lv_iload_n M.1 M.2.1 dX4_putFault_78 rfl (lv_at hl 3 rfl) ?_
            obtain ⟨g_23, hr⟩ := gd hr
            refine x_aaldT M K hB (isB_1.k2) g_23 dX4_putFault_79 ?_
            refine lv_iload_n M.1 M.2.1 dX4_putFault_80 rfl (lv_at hl 2 rfl) ?_
            refine lv_iload_n M.1 M.2.1 dX4_putFault_81 rfl (lv_at hl 4 rfl) ?_
            refine lv_iload M.1 M.2.1 dX4_putFault_82 (lv_at hl 5 rfl) ?_
            refine lv_iload M.1 M.2.1 dX4_putFault_84 (lv_at hl 6 rfl) ?_
            obtain ⟨v_24, σ_25, h_26, hr⟩ := cbd hr
            refine x_callV (x_runV M K hB hl.1 [.int a0, .int a2, .int a3, .int a4] (rest := []) rfl (c_X3_takeFault l Γ (3 + 3 + 5 * a1.toNatClampNeg) a0 a2 a3 a4 (isB.t isB_1 (vp_lt g_23)) σ_18 (v_24, σ_25) h_26) cy_X3_takeFault (x_recv K hB ((isB.t isB_1 (vp_lt g_23)).k).2 (ent_3 ((isB.t isB_1 (vp_lt g_23)).k).1) rfl) wd_76 ⟨rfl, rfl, Nat.le_of_ble_eq_true rfl, Nat.le_of_ble_eq_true rfl⟩ (Nat.le_of_ble_eq_true rfl) ⟨Nat.zero_le _, Nat.zero_le _⟩ dX4_putFault_86) hB (fun H locs hB => ?_)
            replace hB : Bd Γ σ_25 s H locs := hB
            refine lv_iload M.1 M.2.1 dX4_putFault_89 (lv_at hl 0 rfl) ?_
            exact x_iret M hB (Option.some.inj hr) dX4_putFault_91
          · rw [if_pos c_20] at hr
            exact w_X4_putFault_52 M K a0 a1 a2 a3 a4   _ _ _ _  hB (lv_sub hl [] rfl) hr
    · rw [if_pos c_8] at hr
      exact w_X4_putFault_17 M K a0 a1 a2 a3 a4   _ _ _ _  hB (lv_sub hl [] rfl) hr
theorem c_X4_putFault (l : Launch) (Γ : GG) (a0 : Int32) (a1 : Int32) (a2 : Int32) (a3 : Int32) (a4 : Int32)  (σ : Sg) (res : Int32 × Sg) (hr : f_X4_putFault_0 a0 a1 a2 a3 a4 σ = some res) : Met l yX4_putFault (Cond.code yX4_putFault cX4_putFault 7 (some .int) :: gtb) rm_X4_putFault (va_Pc [.ref (Γ.1 0), .int a0, .int a1, .int a2, .int a3, .int a4] (GI Γ σ)) (QI Γ res) 0 0 (AD Γ) :=
  x_metI (by decide) [.ref (Γ.1 0), .int a0, .int a1, .int a2, .int a3, .int a4] (Nat.le_of_ble_eq_true rfl) (fun p e s m args below meth c M K ls hl hB => w_X4_putFault_0 M K a0 a1 a2 a3 a4 σ _ _ ls hB hl hr)
abbrev rm_X4_run : Room := { frames := 5, cells := 0, slots := 0, locals := 109 }
def f_X4_run_33 (a0 : Int32)  : Nat → Int32 → Int32 → Sg → Option (Int32 × Sg)
  | 0, _, _, _ => none
  | f + 1, x1, x2, σ => if x1 ≤ x2 then
some (σ 1 4, σ)
else
cb (f_X0_tick_0 1 σ) fun v_7 σ_8 =>
f_X4_run_33 a0  f x1 (x2 + 1) σ_8
set_option maxHeartbeats 4000000 in
set_option maxRecDepth 100000 in
theorem w_X4_run_33 {p : Program} {l : Launch} {e : Env} {s : State} {m : MethodId} {args : Array Value} {below : List Frame} {meth : Method} {c : Code} {Γ : GG} {res : Int32 × Sg} (M : MX RX4 cX4_run 3 (some .int) p s m args meth c) (K : KK Γ s s.heap) (a0 : Int32) : ∀ (f : Nat) (x1 : Int32) (x2 : Int32) (σ : Sg) (H : Heap) (locs : List Loc) (ls : Array Slot)  (hB : Bd Γ σ s H locs) (hl : lv_has ls 3 [(0, .ref (Γ.1 0)), (1, .int x1), (2, .int x2)]) (hr : f_X4_run_33 a0  f x1 x2 σ = some res), WI Γ rm_X4_run p l e s m args below meth c H locs res (F0 m 33 ls []) := by
  intro f
  induction f with
  | zero => intros; rename_i hr; exact absurd hr (by rw [f_X4_run_33]; exact fun h => by cases h)
  | succ f ih_33 =>
    intro x1 x2 σ H locs ls  hB hl hr
    rw [f_X4_run_33] at hr
    refine lv_iload_n M.1 M.2.1 dX4_run_33 rfl (lv_at hl 2 rfl) ?_
    refine lv_iload_n M.1 M.2.1 dX4_run_34 rfl (lv_at hl 1 rfl) ?_
    refine lv_icmp_ge (tgt := 52) M.1 M.2.1 dX4_run_35 (by decide) (fun c_6 => ?_) (fun c_6 => ?_)
    · rw [if_pos c_6] at hr
      refine lv_aload_n M.1 M.2.1 dX4_run_52 rfl (lv_at hl 0 rfl) ?_
      refine x_get4 M K hB isK_0 0 (by decide) wd_66 (v := .ref (Γ.1 1)) rfl dX4_run_53 ?_
      refine x_get0 M K hB (isB_1.k) 4 (by decide) wd_77 (v := .int (σ 1 4)) rfl dX4_run_56 ?_
      exact x_iret M hB (Option.some.inj hr) dX4_run_59
    · rw [if_neg c_6] at hr
      refine lv_aload_n M.1 M.2.1 dX4_run_38 rfl (lv_at hl 0 rfl) ?_
      refine x_get4 M K hB isK_0 0 (by decide) wd_66 (v := .ref (Γ.1 1)) rfl dX4_run_39 ?_
      obtain ⟨v_7, σ_8, h_9, hr⟩ := cbd hr
      refine x_callI (x_runV M K hB hl.1 [] (rest := []) rfl (c_X0_tick l Γ 1 isB_1 σ (v_7, σ_8) h_9) cy_X0_tick (x_recv K hB (isB_1.k).2 (ent_0 (isB_1.k).1) rfl) wd_79 ⟨rfl, rfl, Nat.le_of_ble_eq_true rfl, Nat.le_of_ble_eq_true rfl⟩ (Nat.le_of_ble_eq_true rfl) ⟨Nat.zero_le _, Nat.zero_le _⟩ dX4_run_42) hB (fun H locs hB => ?_)
      replace hB : Bd Γ σ_8 s H locs := hB
      refine lv_pop M.1 M.2.1 dX4_run_45 rfl ?_
      refine lv_iinc (v := x2 + 1) (lv' := [(2, .int (x2 + 1)), (0, .ref (Γ.1 0)), (1, .int x1)]) M.1 M.2.1 dX4_run_46 hl (k := 2) rfl rfl (by decide) rfl (fun ls hl => ?_)
      refine lv_goto (tgt := 33) M.1 M.2.1 dX4_run_49 (by decide) ?_
      exact ih_33 x1 (x2 + 1) _ _ _ _  hB (lv_sub hl [1, 2, 0] rfl) hr
def f_X4_run_0 (a0 : Int32)   (σ : Sg) : Option (Int32 × Sg) :=
cb (f_X4_isWithin_0 a0 1 2000 σ) fun v_1 σ_2 =>
if v_1 = 0 then
some ((-2), σ_2)
else
if (σ_2 1 4) + a0 ≤ 1000000 then
f_X4_run_33 a0  FU a0 0 σ_2
else
some ((-5), σ_2)
set_option maxHeartbeats 4000000 in
set_option maxRecDepth 100000 in
theorem w_X4_run_0 {p : Program} {l : Launch} {e : Env} {s : State} {m : MethodId} {args : Array Value} {below : List Frame} {meth : Method} {c : Code} {Γ : GG} {res : Int32 × Sg} (M : MX RX4 cX4_run 3 (some .int) p s m args meth c) (K : KK Γ s s.heap) (a0 : Int32)  (σ : Sg) (H : Heap) (locs : List Loc) (ls : Array Slot)  (hB : Bd Γ σ s H locs) (hl : lv_has ls 3 [(0, .ref (Γ.1 0)), (1, .int a0)]) (hr : f_X4_run_0 a0   σ = some res) : WI Γ rm_X4_run p l e s m args below meth c H locs res (F0 m 0 ls []) := by
  unfold f_X4_run_0 at hr
  refine lv_iload_n M.1 M.2.1 dX4_run_0 rfl (lv_at hl 1 rfl) ?_
  refine lv_iconst (v := 1) M.1 M.2.1 dX4_run_1 (by decide) ?_
  refine lv_sipush (v := 2000) M.1 M.2.1 dX4_run_2 (by decide) ?_
  obtain ⟨v_1, σ_2, h_3, hr⟩ := cbd hr
  refine x_callI (x_runS M K hB hl.1 [.int a0, .int 1, .int 2000] (rest := []) rfl (c_X4_isWithin l Γ a0 1 2000  σ (v_1, σ_2) h_3) cy_X4_isWithin wd_62 ⟨rfl, rfl, Nat.le_of_ble_eq_true rfl, Nat.le_of_ble_eq_true rfl⟩ (Nat.le_of_ble_eq_true rfl) ⟨Nat.zero_le _, Nat.zero_le _⟩ dX4_run_5) hB (fun H locs hB => ?_)
  replace hB : Bd Γ σ_2 s H locs := hB
  refine lv_if_ne (tgt := 14) M.1 M.2.1 dX4_run_8 (by decide) (fun c_4 => ?_) (fun c_4 => ?_)
  · rw [if_neg c_4] at hr
    refine lv_aload_n M.1 M.2.1 dX4_run_14 rfl (lv_at hl 0 rfl) ?_
    refine x_get4 M K hB isK_0 0 (by decide) wd_66 (v := .ref (Γ.1 1)) rfl dX4_run_15 ?_
    refine x_get0 M K hB (isB_1.k) 4 (by decide) wd_77 (v := .int (σ_2 1 4)) rfl dX4_run_18 ?_
    refine lv_iload_n M.1 M.2.1 dX4_run_21 rfl (lv_at hl 1 rfl) ?_
    refine lv_iadd M.1 M.2.1 dX4_run_22 ?_
    refine x_ldc (v := 1000000) M wd_78 dX4_run_23 ?_
    refine lv_icmp_le (tgt := 31) M.1 M.2.1 dX4_run_25 (by decide) (fun c_5 => ?_) (fun c_5 => ?_)
    · rw [if_pos c_5] at hr
      refine lv_iconst (v := 0) M.1 M.2.1 dX4_run_31 (by decide) ?_
      refine lv_istore_n (lv' := [(2, .int 0), (0, .ref (Γ.1 0)), (1, .int a0)]) M.1 M.2.1 dX4_run_32 rfl hl (by decide) rfl (fun ls hl => ?_)
      exact w_X4_run_33 M K a0  FU a0 0 _ _ _ _  hB (lv_sub hl [1, 2, 0] rfl) hr
    · rw [if_neg c_5] at hr
      refine lv_bipush (v := (-5)) M.1 M.2.1 dX4_run_28 (by decide) ?_
      exact x_iret M hB (Option.some.inj hr) dX4_run_30
  · rw [if_pos c_4] at hr
    refine lv_bipush (v := (-2)) M.1 M.2.1 dX4_run_11 (by decide) ?_
    exact x_iret M hB (Option.some.inj hr) dX4_run_13
theorem c_X4_run (l : Launch) (Γ : GG) (a0 : Int32)  (σ : Sg) (res : Int32 × Sg) (hr : f_X4_run_0 a0 σ = some res) : Met l yX4_run (Cond.code yX4_run cX4_run 3 (some .int) :: gtb) rm_X4_run (va_Pc [.ref (Γ.1 0), .int a0] (GI Γ σ)) (QI Γ res) 0 0 (AD Γ) :=
  x_metI (by decide) [.ref (Γ.1 0), .int a0] (Nat.le_of_ble_eq_true rfl) (fun p e s m args below meth c M K ls hl hB => w_X4_run_0 M K a0 σ _ _ ls hB hl hr)
abbrev rm_X4_powerCycle : Room := { frames := 2, cells := 0, slots := 0, locals := 40 }
def f_X4_powerCycle_0    (σ : Sg) : Option (Int32 × Sg) :=
cb (f_X0_switchOffAndOn_0 1 σ) fun v_1 σ_2 =>
some (σ 1 5, σ_2)
set_option maxHeartbeats 4000000 in
set_option maxRecDepth 100000 in
theorem w_X4_powerCycle_0 {p : Program} {l : Launch} {e : Env} {s : State} {m : MethodId} {args : Array Value} {below : List Frame} {meth : Method} {c : Code} {Γ : GG} {res : Int32 × Sg} (M : MX RX4 cX4_powerCycle 2 (some .int) p s m args meth c) (K : KK Γ s s.heap)   (σ : Sg) (H : Heap) (locs : List Loc) (ls : Array Slot)  (hB : Bd Γ σ s H locs) (hl : lv_has ls 2 [(0, .ref (Γ.1 0))]) (hr : f_X4_powerCycle_0    σ = some res) : WI Γ rm_X4_powerCycle p l e s m args below meth c H locs res (F0 m 0 ls []) := by
  unfold f_X4_powerCycle_0 at hr
  refine lv_aload_n M.1 M.2.1 dX4_powerCycle_0 rfl (lv_at hl 0 rfl) ?_
  refine x_get4 M K hB isK_0 0 (by decide) wd_66 (v := .ref (Γ.1 1)) rfl dX4_powerCycle_1 ?_
  refine x_get0 M K hB (isB_1.k) 5 (by decide) wd_80 (v := .int (σ 1 5)) rfl dX4_powerCycle_4 ?_
  refine lv_istore_n (lv' := [(1, .int (σ 1 5)), (0, .ref (Γ.1 0))]) M.1 M.2.1 dX4_powerCycle_7 rfl hl (by decide) rfl (fun ls hl => ?_)
  refine lv_aload_n M.1 M.2.1 dX4_powerCycle_8 rfl (lv_at hl 1 rfl) ?_
  refine x_get4 M K hB isK_0 0 (by decide) wd_66 (v := .ref (Γ.1 1)) rfl dX4_powerCycle_9 ?_
  obtain ⟨v_1, σ_2, h_3, hr⟩ := cbd hr
  refine x_callV (x_runV M K hB hl.1 [] (rest := []) rfl (c_X0_switchOffAndOn l Γ 1 isB_1 σ (v_1, σ_2) h_3) cy_X0_switchOffAndOn (x_recv K hB (isB_1.k).2 (ent_0 (isB_1.k).1) rfl) wd_81 ⟨rfl, rfl, Nat.le_of_ble_eq_true rfl, Nat.le_of_ble_eq_true rfl⟩ (Nat.le_of_ble_eq_true rfl) ⟨Nat.zero_le _, Nat.zero_le _⟩ dX4_powerCycle_12) hB (fun H locs hB => ?_)
  replace hB : Bd Γ σ_2 s H locs := hB
  refine lv_iload_n M.1 M.2.1 dX4_powerCycle_15 rfl (lv_at hl 0 rfl) ?_
  exact x_iret M hB (Option.some.inj hr) dX4_powerCycle_16
theorem c_X4_powerCycle (l : Launch) (Γ : GG)   (σ : Sg) (res : Int32 × Sg) (hr : f_X4_powerCycle_0  σ = some res) : Met l yX4_powerCycle (Cond.code yX4_powerCycle cX4_powerCycle 2 (some .int) :: gtb) rm_X4_powerCycle (va_Pc [.ref (Γ.1 0)] (GI Γ σ)) (QI Γ res) 0 0 (AD Γ) :=
  x_metI (by decide) [.ref (Γ.1 0)] (Nat.le_of_ble_eq_true rfl) (fun p e s m args below meth c M K ls hl hB => w_X4_powerCycle_0 M K  σ _ _ ls hB hl hr)
end
section
abbrev rm_X4_state : Room := { frames := 1, cells := 0, slots := 0, locals := 22 }
def f_X4_state_145 (a0 : Int32)  (s0 : Int32) (σ : Sg) : Option (Int32 × Sg) :=
some (s0, σ)
set_option maxHeartbeats 4000000 in
set_option maxRecDepth 100000 in
theorem w_X4_state_145 {p : Program} {l : Launch} {e : Env} {s : State} {m : MethodId} {args : Array Value} {below : List Frame} {meth : Method} {c : Code} {Γ : GG} {res : Int32 × Sg} (M : MX RX4 cX4_state 2 (some .int) p s m args meth c) (K : KK Γ s s.heap) (a0 : Int32) (s0 : Int32) (σ : Sg) (H : Heap) (locs : List Loc) (ls : Array Slot)  (hB : Bd Γ σ s H locs) (hl : lv_has ls 2 []) (hr : f_X4_state_145 a0  s0 σ = some res) : WI Γ rm_X4_state p l e s m args below meth c H locs res (F0 m 145 ls [.int s0]) := by
  unfold f_X4_state_145 at hr
  exact x_iret M hB (Option.some.inj hr) dX4_state_145
def f_X4_state_0 (a0 : Int32)   (σ : Sg) : Option (Int32 × Sg) :=
cb (f_X4_isWithin_0 a0 13 20 σ) fun v_1 σ_2 =>
if v_1 = 0 then
if a0 = 0 then
some (σ_2 1 4, σ_2)
else
if a0 = 1 then
some (σ_2 1 5, σ_2)
else
if a0 = 2 then
some (σ_2 1 6, σ_2)
else
if a0 = 3 then
some (σ_2 1 7, σ_2)
else
if a0 = 4 then
if σ_2 1 5 = 0 then
f_X4_state_145 a0  (σ_2 1 8) σ_2
else
f_X4_state_145 a0  0 σ_2
else
if a0 = 5 then
cb (f_X0_ifRunning_0 1 (σ_2 1 9) σ_2) fun v_18 σ_19 =>
some (v_18, σ_19)
else
if a0 = 6 then
cb (f_X0_ifRunning_0 1 (σ_2 1 10) σ_2) fun v_23 σ_24 =>
some (v_23, σ_24)
else
if a0 = 7 then
cb (f_X0_ifRunning_0 1 (σ_2 1 11) σ_2) fun v_28 σ_29 =>
some (v_28, σ_29)
else
if a0 = 8 then
cb (f_X0_ifRunning_0 1 (σ_2 1 12) σ_2) fun v_33 σ_34 =>
some (v_33, σ_34)
else
if a0 = 9 then
some (σ_2 4 1, σ_2)
else
if a0 = 10 then
some (σ_2 1 3, σ_2)
else
if a0 = 11 then
cb (f_X0_expiredSet_0 1 σ_2) fun v_42 σ_43 =>
cb (f_X0_ifRunning_0 1 v_42 σ_43) fun v_45 σ_46 =>
some (v_45, σ_46)
else
if a0 = 12 then
some (σ_2 143 1, σ_2)
else
some ((-2), σ_2)
else
if a0 - 13 < 0 ∨ 8 ≤ (a0 - 13).toNatClampNeg then none else
some (σ_2 2 ((a0 - 13).toNatClampNeg), σ_2)
set_option maxHeartbeats 4000000 in
set_option maxRecDepth 100000 in
theorem w_X4_state_0 {p : Program} {l : Launch} {e : Env} {s : State} {m : MethodId} {args : Array Value} {below : List Frame} {meth : Method} {c : Code} {Γ : GG} {res : Int32 × Sg} (M : MX RX4 cX4_state 2 (some .int) p s m args meth c) (K : KK Γ s s.heap) (a0 : Int32)  (σ : Sg) (H : Heap) (locs : List Loc) (ls : Array Slot)  (hB : Bd Γ σ s H locs) (hl : lv_has ls 2 [(0, .ref (Γ.1 0)), (1, .int a0)]) (hr : f_X4_state_0 a0   σ = some res) : WI Γ rm_X4_state p l e s m args below meth c H locs res (F0 m 0 ls []) := by
  unfold f_X4_state_0 at hr
  refine lv_iload_n M.1 M.2.1 dX4_state_0 rfl (lv_at hl 1 rfl) ?_
  refine lv_bipush (v := 13) M.1 M.2.1 dX4_state_1 (by decide) ?_
  refine lv_bipush (v := 20) M.1 M.2.1 dX4_state_3 (by decide) ?_
  obtain ⟨v_1, σ_2, h_3, hr⟩ := cbd hr
  refine x_callI (x_runS M K hB hl.1 [.int a0, .int 13, .int 20] (rest := []) rfl (c_X4_isWithin l Γ a0 13 20  σ (v_1, σ_2) h_3) cy_X4_isWithin wd_62 ⟨rfl, rfl, Nat.le_of_ble_eq_true rfl, Nat.le_of_ble_eq_true rfl⟩ (Nat.le_of_ble_eq_true rfl) ⟨Nat.zero_le _, Nat.zero_le _⟩ dX4_state_5) hB (fun H locs hB => ?_)
  replace hB : Bd Γ σ_2 s H locs := hB
  refine lv_if_eq (tgt := 24) M.1 M.2.1 dX4_state_8 (by decide) (fun c_4 => ?_) (fun c_4 => ?_)
  · rw [if_pos c_4] at hr
    refine lv_iload_n M.1 M.2.1 dX4_state_24 rfl (lv_at hl 1 rfl) ?_
    by_cases c_5 : a0 = 0
    · rw [if_pos c_5] at hr
      have t_6 : Int32.toInt a0 = 0 := by rw [c_5]; decide
      refine lv_tableIn (off := 67) (tgt := 92) M.1 M.2.1 dX4_state_25 (by rw [t_6]; decide) (by rw [t_6]; decide) (by rw [t_6]; rfl) (by decide) ?_
      refine lv_aload_n M.1 M.2.1 dX4_state_92 rfl (lv_at hl 0 rfl) ?_
      refine x_get4 M K hB isK_0 0 (by decide) wd_66 (v := .ref (Γ.1 1)) rfl dX4_state_93 ?_
      refine x_get0 M K hB (isB_1.k) 4 (by decide) wd_77 (v := .int (σ_2 1 4)) rfl dX4_state_96 ?_
      exact x_iret M hB (Option.some.inj hr) dX4_state_99
    · rw [if_neg c_5] at hr
      have t_6 : ¬ Int32.toInt a0 = 0 := lv_neT c_5 (by decide)
      by_cases c_7 : a0 = 1
      · rw [if_pos c_7] at hr
        have t_8 : Int32.toInt a0 = 1 := by rw [c_7]; decide
        refine lv_tableIn (off := 75) (tgt := 100) M.1 M.2.1 dX4_state_25 (by rw [t_8]; decide) (by rw [t_8]; decide) (by rw [t_8]; rfl) (by decide) ?_
        refine lv_aload_n M.1 M.2.1 dX4_state_100 rfl (lv_at hl 0 rfl) ?_
        refine x_get4 M K hB isK_0 0 (by decide) wd_66 (v := .ref (Γ.1 1)) rfl dX4_state_101 ?_
        refine x_get0 M K hB (isB_1.k) 5 (by decide) wd_80 (v := .int (σ_2 1 5)) rfl dX4_state_104 ?_
        exact x_iret M hB (Option.some.inj hr) dX4_state_107
      · rw [if_neg c_7] at hr
        have t_8 : ¬ Int32.toInt a0 = 1 := lv_neT c_7 (by decide)
        by_cases c_9 : a0 = 2
        · rw [if_pos c_9] at hr
          have t_10 : Int32.toInt a0 = 2 := by rw [c_9]; decide
          refine lv_tableIn (off := 83) (tgt := 108) M.1 M.2.1 dX4_state_25 (by rw [t_10]; decide) (by rw [t_10]; decide) (by rw [t_10]; rfl) (by decide) ?_
          refine lv_aload_n M.1 M.2.1 dX4_state_108 rfl (lv_at hl 0 rfl) ?_
          refine x_get4 M K hB isK_0 0 (by decide) wd_66 (v := .ref (Γ.1 1)) rfl dX4_state_109 ?_
          refine x_get0 M K hB (isB_1.k) 6 (by decide) wd_82 (v := .int (σ_2 1 6)) rfl dX4_state_112 ?_
          exact x_iret M hB (Option.some.inj hr) dX4_state_115
        · rw [if_neg c_9] at hr
          have t_10 : ¬ Int32.toInt a0 = 2 := lv_neT c_9 (by decide)
          by_cases c_11 : a0 = 3
          · rw [if_pos c_11] at hr
            have t_12 : Int32.toInt a0 = 3 := by rw [c_11]; decide
            refine lv_tableIn (off := 91) (tgt := 116) M.1 M.2.1 dX4_state_25 (by rw [t_12]; decide) (by rw [t_12]; decide) (by rw [t_12]; rfl) (by decide) ?_
            refine lv_aload_n M.1 M.2.1 dX4_state_116 rfl (lv_at hl 0 rfl) ?_
            refine x_get4 M K hB isK_0 0 (by decide) wd_66 (v := .ref (Γ.1 1)) rfl dX4_state_117 ?_
            refine x_get0 M K hB (isB_1.k) 7 (by decide) wd_83 (v := .int (σ_2 1 7)) rfl dX4_state_120 ?_
            exact x_iret M hB (Option.some.inj hr) dX4_state_123
          · rw [if_neg c_11] at hr
            have t_12 : ¬ Int32.toInt a0 = 3 := lv_neT c_11 (by decide)
            by_cases c_13 : a0 = 4
            · rw [if_pos c_13] at hr
              have t_14 : Int32.toInt a0 = 4 := by rw [c_13]; decide
              refine lv_tableIn (off := 99) (tgt := 124) M.1 M.2.1 dX4_state_25 (by rw [t_14]; decide) (by rw [t_14]; decide) (by rw [t_14]; rfl) (by decide) ?_
              refine lv_aload_n M.1 M.2.1 dX4_state_124 rfl (lv_at hl 0 rfl) ?_
              refine x_get4 M K hB isK_0 0 (by decide) wd_66 (v := .ref (Γ.1 1)) rfl dX4_state_125 ?_
              refine x_get0 M K hB (isB_1.k) 5 (by decide) wd_80 (v := .int (σ_2 1 5)) rfl dX4_state_128 ?_
              refine lv_if_ne (tgt := 144) M.1 M.2.1 dX4_state_131 (by decide) (fun c_15 => ?_) (fun c_15 => ?_)
              · rw [if_neg c_15] at hr
                refine lv_iconst (v := 0) M.1 M.2.1 dX4_state_144 (by decide) ?_
                exact w_X4_state_145 M K a0  0 _ _ _ _  hB (lv_sub hl [] rfl) hr
              · rw [if_pos c_15] at hr
                refine lv_aload_n M.1 M.2.1 dX4_state_134 rfl (lv_at hl 0 rfl) ?_
                refine x_get4 M K hB isK_0 0 (by decide) wd_66 (v := .ref (Γ.1 1)) rfl dX4_state_135 ?_
                refine x_get0 M K hB (isB_1.k) 8 (by decide) wd_84 (v := .int (σ_2 1 8)) rfl dX4_state_138 ?_
                refine lv_goto (tgt := 145) M.1 M.2.1 dX4_state_141 (by decide) ?_
                exact w_X4_state_145 M K a0  (σ_2 1 8) _ _ _ _  hB (lv_sub hl [] rfl) hr
            · rw [if_neg c_13] at hr
              have t_14 : ¬ Int32.toInt a0 = 4 := lv_neT c_13 (by decide)
              by_cases c_16 : a0 = 5
              · rw [if_pos c_16] at hr
                have t_17 : Int32.toInt a0 = 5 := by rw [c_16]; decide
                refine lv_tableIn (off := 121) (tgt := 146) M.1 M.2.1 dX4_state_25 (by rw [t_17]; decide) (by rw [t_17]; decide) (by rw [t_17]; rfl) (by decide) ?_
                refine lv_aload_n M.1 M.2.1 dX4_state_146 rfl (lv_at hl 0 rfl) ?_
                refine x_get4 M K hB isK_0 0 (by decide) wd_66 (v := .ref (Γ.1 1)) rfl dX4_state_147 ?_
                refine lv_aload_n M.1 M.2.1 dX4_state_150 rfl (lv_at hl 0 rfl) ?_
                refine x_get4 M K hB isK_0 0 (by decide) wd_66 (v := .ref (Γ.1 1)) rfl dX4_state_151 ?_
                refine x_get0 M K hB (isB_1.k) 9 (by decide) wd_85 (v := .int (σ_2 1 9)) rfl dX4_state_154 ?_
                obtain ⟨v_18, σ_19, h_20, hr⟩ := cbd hr
                refine x_callI (x_runV M K hB hl.1 [.int (σ_2 1 9)] (rest := []) rfl (c_X0_ifRunning l Γ 1 (σ_2 1 9) isB_1 σ_2 (v_18, σ_19) h_20) cy_X0_ifRunning (x_recv K hB (isB_1.k).2 (ent_0 (isB_1.k).1) rfl) wd_86 ⟨rfl, rfl, Nat.le_of_ble_eq_true rfl, Nat.le_of_ble_eq_true rfl⟩ (Nat.le_of_ble_eq_true rfl) ⟨Nat.zero_le _, Nat.zero_le _⟩ dX4_state_157) hB (fun H locs hB => ?_)
                replace hB : Bd Γ σ_19 s H locs := hB
                exact x_iret M hB (Option.some.inj hr) dX4_state_160
              · rw [if_neg c_16] at hr
                have t_17 : ¬ Int32.toInt a0 = 5 := lv_neT c_16 (by decide)
                by_cases c_21 : a0 = 6
                · rw [if_pos c_21] at hr
                  have t_22 : Int32.toInt a0 = 6 := by rw [c_21]; decide
                  refine lv_tableIn (off := 136) (tgt := 161) M.1 M.2.1 dX4_state_25 (by rw [t_22]; decide) (by rw [t_22]; decide) (by rw [t_22]; rfl) (by decide) ?_
                  refine lv_aload_n M.1 M.2.1 dX4_state_161 rfl (lv_at hl 0 rfl) ?_
                  refine x_get4 M K hB isK_0 0 (by decide) wd_66 (v := .ref (Γ.1 1)) rfl dX4_state_162 ?_
                  refine lv_aload_n M.1 M.2.1 dX4_state_165 rfl (lv_at hl 0 rfl) ?_
                  refine x_get4 M K hB isK_0 0 (by decide) wd_66 (v := .ref (Γ.1 1)) rfl dX4_state_166 ?_
                  refine x_get0 M K hB (isB_1.k) 10 (by decide) wd_87 (v := .int (σ_2 1 10)) rfl dX4_state_169 ?_
                  obtain ⟨v_23, σ_24, h_25, hr⟩ := cbd hr
                  refine x_callI (x_runV M K hB hl.1 [.int (σ_2 1 10)] (rest := []) rfl (c_X0_ifRunning l Γ 1 (σ_2 1 10) isB_1 σ_2 (v_23, σ_24) h_25) cy_X0_ifRunning (x_recv K hB (isB_1.k).2 (ent_0 (isB_1.k).1) rfl) wd_86 ⟨rfl, rfl, Nat.le_of_ble_eq_true rfl, Nat.le_of_ble_eq_true rfl⟩ (Nat.le_of_ble_eq_true rfl) ⟨Nat.zero_le _, Nat.zero_le _⟩ dX4_state_172) hB (fun H locs hB => ?_)
                  replace hB : Bd Γ σ_24 s H locs := hB
                  exact x_iret M hB (Option.some.inj hr) dX4_state_175
                · rw [if_neg c_21] at hr
                  have t_22 : ¬ Int32.toInt a0 = 6 := lv_neT c_21 (by decide)
                  by_cases c_26 : a0 = 7
                  · rw [if_pos c_26] at hr
                    have t_27 : Int32.toInt a0 = 7 := by rw [c_26]; decide
                    refine lv_tableIn (off := 151) (tgt := 176) M.1 M.2.1 dX4_state_25 (by rw [t_27]; decide) (by rw [t_27]; decide) (by rw [t_27]; rfl) (by decide) ?_
                    refine lv_aload_n M.1 M.2.1 dX4_state_176 rfl (lv_at hl 0 rfl) ?_
                    refine x_get4 M K hB isK_0 0 (by decide) wd_66 (v := .ref (Γ.1 1)) rfl dX4_state_177 ?_
                    refine lv_aload_n M.1 M.2.1 dX4_state_180 rfl (lv_at hl 0 rfl) ?_
                    refine x_get4 M K hB isK_0 0 (by decide) wd_66 (v := .ref (Γ.1 1)) rfl dX4_state_181 ?_
                    refine x_get0 M K hB (isB_1.k) 11 (by decide) wd_88 (v := .int (σ_2 1 11)) rfl dX4_state_184 ?_
                    obtain ⟨v_28, σ_29, h_30, hr⟩ := cbd hr
                    refine x_callI (x_runV M K hB hl.1 [.int (σ_2 1 11)] (rest := []) rfl (c_X0_ifRunning l Γ 1 (σ_2 1 11) isB_1 σ_2 (v_28, σ_29) h_30) cy_X0_ifRunning (x_recv K hB (isB_1.k).2 (ent_0 (isB_1.k).1) rfl) wd_86 ⟨rfl, rfl, Nat.le_of_ble_eq_true rfl, Nat.le_of_ble_eq_true rfl⟩ (Nat.le_of_ble_eq_true rfl) ⟨Nat.zero_le _, Nat.zero_le _⟩ dX4_state_187) hB (fun H locs hB => ?_)
                    replace hB : Bd Γ σ_29 s H locs := hB
                    exact x_iret M hB (Option.some.inj hr) dX4_state_190
                  · rw [if_neg c_26] at hr
                    have t_27 : ¬ Int32.toInt a0 = 7 := lv_neT c_26 (by decide)
                    by_cases c_31 : a0 = 8
                    · rw [if_pos c_31] at hr
                      have t_32 : Int32.toInt a0 = 8 := by rw [c_31]; decide
                      refine lv_tableIn (off := 166) (tgt := 191) M.1 M.2.1 dX4_state_25 (by rw [t_32]; decide) (by rw [t_32]; decide) (by rw [t_32]; rfl) (by decide) ?_
                      refine lv_aload_n M.1 M.2.1 dX4_state_191 rfl (lv_at hl 0 rfl) ?_
                      refine x_get4 M K hB isK_0 0 (by decide) wd_66 (v := .ref (Γ.1 1)) rfl dX4_state_192 ?_
                      refine lv_aload_n M.1 M.2.1 dX4_state_195 rfl (lv_at hl 0 rfl) ?_
                      refine x_get4 M K hB isK_0 0 (by decide) wd_66 (v := .ref (Γ.1 1)) rfl dX4_state_196 ?_
                      refine x_get0 M K hB (isB_1.k) 12 (by decide) wd_89 (v := .int (σ_2 1 12)) rfl dX4_state_199 ?_
                      obtain ⟨v_33, σ_34, h_35, hr⟩ := cbd hr
                      refine x_callI (x_runV M K hB hl.1 [.int (σ_2 1 12)] (rest := []) rfl (c_X0_ifRunning l Γ 1 (σ_2 1 12) isB_1 σ_2 (v_33, σ_34) h_35) cy_X0_ifRunning (x_recv K hB (isB_1.k).2 (ent_0 (isB_1.k).1) rfl) wd_86 ⟨rfl, rfl, Nat.le_of_ble_eq_true rfl, Nat.le_of_ble_eq_true rfl⟩ (Nat.le_of_ble_eq_true rfl) ⟨Nat.zero_le _, Nat.zero_le _⟩ dX4_state_202) hB (fun H locs hB => ?_)
                      replace hB : Bd Γ σ_34 s H locs := hB
                      exact x_iret M hB (Option.some.inj hr) dX4_state_205
                    · rw [if_neg c_31] at hr
                      have t_32 : ¬ Int32.toInt a0 = 8 := lv_neT c_31 (by decide)
                      by_cases c_36 : a0 = 9
                      · rw [if_pos c_36] at hr
                        have t_37 : Int32.toInt a0 = 9 := by rw [c_36]; decide
                        refine lv_tableIn (off := 181) (tgt := 206) M.1 M.2.1 dX4_state_25 (by rw [t_37]; decide) (by rw [t_37]; decide) (by rw [t_37]; rfl) (by decide) ?_
                        refine lv_aload_n M.1 M.2.1 dX4_state_206 rfl (lv_at hl 0 rfl) ?_
                        refine x_get4 M K hB isK_0 0 (by decide) wd_66 (v := .ref (Γ.1 1)) rfl dX4_state_207 ?_
                        refine x_get0 M K hB (isB_1.k) 2 (by decide) wd_90 (v := .ref (Γ.1 4)) rfl dX4_state_210 ?_
                        refine x_get1 M K hB (isB_1.bk.k) 1 (by decide) wd_91 (v := .int (σ_2 4 1)) rfl dX4_state_213 ?_
                        exact x_iret M hB (Option.some.inj hr) dX4_state_216
                      · rw [if_neg c_36] at hr
                        have t_37 : ¬ Int32.toInt a0 = 9 := lv_neT c_36 (by decide)
                        by_cases c_38 : a0 = 10
                        · rw [if_pos c_38] at hr
                          have t_39 : Int32.toInt a0 = 10 := by rw [c_38]; decide
                          refine lv_tableIn (off := 192) (tgt := 217) M.1 M.2.1 dX4_state_25 (by rw [t_39]; decide) (by rw [t_39]; decide) (by rw [t_39]; rfl) (by decide) ?_
                          refine lv_aload_n M.1 M.2.1 dX4_state_217 rfl (lv_at hl 0 rfl) ?_
                          refine x_get4 M K hB isK_0 0 (by decide) wd_66 (v := .ref (Γ.1 1)) rfl dX4_state_218 ?_
                          refine x_get0 M K hB (isB_1.k) 3 (by decide) wd_70 (v := .int (σ_2 1 3)) rfl dX4_state_221 ?_
                          exact x_iret M hB (Option.some.inj hr) dX4_state_224
                        · rw [if_neg c_38] at hr
                          have t_39 : ¬ Int32.toInt a0 = 10 := lv_neT c_38 (by decide)
                          by_cases c_40 : a0 = 11
                          · rw [if_pos c_40] at hr
                            have t_41 : Int32.toInt a0 = 11 := by rw [c_40]; decide
                            refine lv_tableIn (off := 200) (tgt := 225) M.1 M.2.1 dX4_state_25 (by rw [t_41]; decide) (by rw [t_41]; decide) (by rw [t_41]; rfl) (by decide) ?_
                            refine lv_aload_n M.1 M.2.1 dX4_state_225 rfl (lv_at hl 0 rfl) ?_
                            refine x_get4 M K hB isK_0 0 (by decide) wd_66 (v := .ref (Γ.1 1)) rfl dX4_state_226 ?_
                            refine lv_aload_n M.1 M.2.1 dX4_state_229 rfl (lv_at hl 0 rfl) ?_
                            refine x_get4 M K hB isK_0 0 (by decide) wd_66 (v := .ref (Γ.1 1)) rfl dX4_state_230 ?_
                            obtain ⟨v_42, σ_43, h_44, hr⟩ := cbd hr
                            refine x_callI (x_runV M K hB hl.1 [] (rest := [.ref (Γ.1 1)]) rfl (c_X0_expiredSet l Γ 1 isB_1 σ_2 (v_42, σ_43) h_44) cy_X0_expiredSet (x_recv K hB (isB_1.k).2 (ent_0 (isB_1.k).1) rfl) wd_92 ⟨rfl, rfl, Nat.le_of_ble_eq_true rfl, Nat.le_of_ble_eq_true rfl⟩ (Nat.le_of_ble_eq_true rfl) ⟨Nat.zero_le _, Nat.zero_le _⟩ dX4_state_233) hB (fun H locs hB => ?_)
                            replace hB : Bd Γ σ_43 s H locs := hB
                            obtain ⟨v_45, σ_46, h_47, hr⟩ := cbd hr
                            refine x_callI (x_runV M K hB hl.1 [.int v_42] (rest := []) rfl (c_X0_ifRunning l Γ 1 v_42 isB_1 σ_43 (v_45, σ_46) h_47) cy_X0_ifRunning (x_recv K hB (isB_1.k).2 (ent_0 (isB_1.k).1) rfl) wd_86 ⟨rfl, rfl, Nat.le_of_ble_eq_true rfl, Nat.le_of_ble_eq_true rfl⟩ (Nat.le_of_ble_eq_true rfl) ⟨Nat.zero_le _, Nat.zero_le _⟩ dX4_state_236) hB (fun H locs hB => ?_)
                            replace hB : Bd Γ σ_46 s H locs := hB
                            exact x_iret M hB (Option.some.inj hr) dX4_state_239
                          · rw [if_neg c_40] at hr
                            have t_41 : ¬ Int32.toInt a0 = 11 := lv_neT c_40 (by decide)
                            by_cases c_48 : a0 = 12
                            · rw [if_pos c_48] at hr
                              have t_49 : Int32.toInt a0 = 12 := by rw [c_48]; decide
                              refine lv_tableIn (off := 215) (tgt := 240) M.1 M.2.1 dX4_state_25 (by rw [t_49]; decide) (by rw [t_49]; decide) (by rw [t_49]; rfl) (by decide) ?_
                              refine lv_aload_n M.1 M.2.1 dX4_state_240 rfl (lv_at hl 0 rfl) ?_
                              refine x_get4 M K hB isK_0 4 (by decide) wd_93 (v := .ref (Γ.1 143)) rfl dX4_state_241 ?_
                              refine x_get2 M K hB isK_143 1 (by decide) wd_94 (v := .int (σ_2 143 1)) rfl dX4_state_244 ?_
                              exact x_iret M hB (Option.some.inj hr) dX4_state_247
                            · rw [if_neg c_48] at hr
                              have t_49 : ¬ Int32.toInt a0 = 12 := lv_neT c_48 (by decide)
                              refine lv_tableOut (tgt := 248) M.1 M.2.1 dX4_state_25 (by omega) (by decide) ?_
                              refine lv_bipush (v := (-2)) M.1 M.2.1 dX4_state_248 (by decide) ?_
                              exact x_iret M hB (Option.some.inj hr) dX4_state_250
  · rw [if_neg c_4] at hr
    refine lv_aload_n M.1 M.2.1 dX4_state_11 rfl (lv_at hl 0 rfl) ?_
    refine x_get4 M K hB isK_0 0 (by decide) wd_66 (v := .ref (Γ.1 1)) rfl dX4_state_12 ?_
    refine x_get0 M K hB (isB_1.k) 0 (by decide) wd_67 (v := .ref (Γ.1 2)) rfl dX4_state_15 ?_
    refine lv_iload_n M.1 M.2.1 dX4_state_18 rfl (lv_at hl 1 rfl) ?_
    refine lv_bipush (v := 13) M.1 M.2.1 dX4_state_19 (by decide) ?_
    refine lv_isub M.1 M.2.1 dX4_state_21 ?_
    obtain ⟨g_50, hr⟩ := gd hr
    refine x_iald M K hB (isB_1.a1) g_50 dX4_state_22 ?_
    exact x_iret M hB (Option.some.inj hr) dX4_state_23
theorem c_X4_state (l : Launch) (Γ : GG) (a0 : Int32)  (σ : Sg) (res : Int32 × Sg) (hr : f_X4_state_0 a0 σ = some res) : Met l yX4_state (Cond.code yX4_state cX4_state 2 (some .int) :: gtb) rm_X4_state (va_Pc [.ref (Γ.1 0), .int a0] (GI Γ σ)) (QI Γ res) 0 0 (AD Γ) :=
  x_metI (by decide) [.ref (Γ.1 0), .int a0] (Nat.le_of_ble_eq_true rfl) (fun p e s m args below meth c M K ls hl hB => w_X4_state_0 M K a0 σ _ _ ls hB hl hr)
abbrev rm_X4_forecast : Room := { frames := 6, cells := 0, slots := 0, locals := 131 }
def f_X4_forecast_0 (a0 : Int32)   (σ : Sg) : Option (Int32 × Sg) :=
cb (f_X4_isWithin_0 a0 1 5000 σ) fun v_1 σ_2 =>
if v_1 = 0 then
some ((-2), σ_2)
else
cb (f_X0_become_0 36 1 σ_2) fun v_5 σ_6 =>
cb (f_X0_ticksToReset_0 36 a0 σ_6) fun v_8 σ_9 =>
some (v_8, σ_9)
set_option maxHeartbeats 4000000 in
set_option maxRecDepth 100000 in
theorem w_X4_forecast_0 {p : Program} {l : Launch} {e : Env} {s : State} {m : MethodId} {args : Array Value} {below : List Frame} {meth : Method} {c : Code} {Γ : GG} {res : Int32 × Sg} (M : MX RX4 cX4_forecast 2 (some .int) p s m args meth c) (K : KK Γ s s.heap) (a0 : Int32)  (σ : Sg) (H : Heap) (locs : List Loc) (ls : Array Slot)  (hB : Bd Γ σ s H locs) (hl : lv_has ls 2 [(0, .ref (Γ.1 0)), (1, .int a0)]) (hr : f_X4_forecast_0 a0   σ = some res) : WI Γ rm_X4_forecast p l e s m args below meth c H locs res (F0 m 0 ls []) := by
  unfold f_X4_forecast_0 at hr
  refine lv_iload_n M.1 M.2.1 dX4_forecast_0 rfl (lv_at hl 1 rfl) ?_
  refine lv_iconst (v := 1) M.1 M.2.1 dX4_forecast_1 (by decide) ?_
  refine lv_sipush (v := 5000) M.1 M.2.1 dX4_forecast_2 (by decide) ?_
  obtain ⟨v_1, σ_2, h_3, hr⟩ := cbd hr
  refine x_callI (x_runS M K hB hl.1 [.int a0, .int 1, .int 5000] (rest := []) rfl (c_X4_isWithin l Γ a0 1 5000  σ (v_1, σ_2) h_3) cy_X4_isWithin wd_62 ⟨rfl, rfl, Nat.le_of_ble_eq_true rfl, Nat.le_of_ble_eq_true rfl⟩ (Nat.le_of_ble_eq_true rfl) ⟨Nat.zero_le _, Nat.zero_le _⟩ dX4_forecast_5) hB (fun H locs hB => ?_)
  replace hB : Bd Γ σ_2 s H locs := hB
  refine lv_if_ne (tgt := 14) M.1 M.2.1 dX4_forecast_8 (by decide) (fun c_4 => ?_) (fun c_4 => ?_)
  · rw [if_neg c_4] at hr
    refine lv_aload_n M.1 M.2.1 dX4_forecast_14 rfl (lv_at hl 0 rfl) ?_
    refine x_get4 M K hB isK_0 1 (by decide) wd_95 (v := .ref (Γ.1 36)) rfl dX4_forecast_15 ?_
    refine lv_aload_n M.1 M.2.1 dX4_forecast_18 rfl (lv_at hl 0 rfl) ?_
    refine x_get4 M K hB isK_0 0 (by decide) wd_66 (v := .ref (Γ.1 1)) rfl dX4_forecast_19 ?_
    obtain ⟨v_5, σ_6, h_7, hr⟩ := cbd hr
    refine x_callV (x_runV M K hB hl.1 [.ref (Γ.1 1)] (rest := []) rfl (c_X0_become l Γ 36 1 isB_36 isB_1 σ_2 (v_5, σ_6) h_7) cy_X0_become (x_recv K hB (isB_36.k).2 (ent_0 (isB_36.k).1) rfl) wd_96 ⟨rfl, rfl, Nat.le_of_ble_eq_true rfl, Nat.le_of_ble_eq_true rfl⟩ (Nat.le_of_ble_eq_true rfl) ⟨Nat.zero_le _, Nat.zero_le _⟩ dX4_forecast_22) hB (fun H locs hB => ?_)
    replace hB : Bd Γ σ_6 s H locs := hB
    refine lv_aload_n M.1 M.2.1 dX4_forecast_25 rfl (lv_at hl 0 rfl) ?_
    refine x_get4 M K hB isK_0 1 (by decide) wd_95 (v := .ref (Γ.1 36)) rfl dX4_forecast_26 ?_
    refine lv_iload_n M.1 M.2.1 dX4_forecast_29 rfl (lv_at hl 1 rfl) ?_
    obtain ⟨v_8, σ_9, h_10, hr⟩ := cbd hr
    refine x_callI (x_runV M K hB hl.1 [.int a0] (rest := []) rfl (c_X0_ticksToReset l Γ 36 a0 isB_36 σ_6 (v_8, σ_9) h_10) cy_X0_ticksToReset (x_recv K hB (isB_36.k).2 (ent_0 (isB_36.k).1) rfl) wd_97 ⟨rfl, rfl, Nat.le_of_ble_eq_true rfl, Nat.le_of_ble_eq_true rfl⟩ (Nat.le_of_ble_eq_true rfl) ⟨Nat.zero_le _, Nat.zero_le _⟩ dX4_forecast_30) hB (fun H locs hB => ?_)
    replace hB : Bd Γ σ_9 s H locs := hB
    exact x_iret M hB (Option.some.inj hr) dX4_forecast_33
  · rw [if_pos c_4] at hr
    refine lv_bipush (v := (-2)) M.1 M.2.1 dX4_forecast_11 (by decide) ?_
    exact x_iret M hB (Option.some.inj hr) dX4_forecast_13
theorem c_X4_forecast (l : Launch) (Γ : GG) (a0 : Int32)  (σ : Sg) (res : Int32 × Sg) (hr : f_X4_forecast_0 a0 σ = some res) : Met l yX4_forecast (Cond.code yX4_forecast cX4_forecast 2 (some .int) :: gtb) rm_X4_forecast (va_Pc [.ref (Γ.1 0), .int a0] (GI Γ σ)) (QI Γ res) 0 0 (AD Γ) :=
  x_metI (by decide) [.ref (Γ.1 0), .int a0] (Nat.le_of_ble_eq_true rfl) (fun p e s m args below meth c M K ls hl hB => w_X4_forecast_0 M K a0 σ _ _ ls hB hl hr)
abbrev rm_X4_task : Room := { frames := 2, cells := 0, slots := 0, locals := 43 }
def f_X4_task_131 (a0 : Int32) (a1 : Int32)  (s0 : Int32) (σ : Sg) : Option (Int32 × Sg) :=
some (s0, σ)
set_option maxHeartbeats 4000000 in
set_option maxRecDepth 100000 in
theorem w_X4_task_131 {p : Program} {l : Launch} {e : Env} {s : State} {m : MethodId} {args : Array Value} {below : List Frame} {meth : Method} {c : Code} {Γ : GG} {res : Int32 × Sg} (M : MX RX4 cX4_task 4 (some .int) p s m args meth c) (K : KK Γ s s.heap) (a0 : Int32) (a1 : Int32) (s0 : Int32) (σ : Sg) (H : Heap) (locs : List Loc) (ls : Array Slot)  (hB : Bd Γ σ s H locs) (hl : lv_has ls 4 []) (hr : f_X4_task_131 a0 a1  s0 σ = some res) : WI Γ rm_X4_task p l e s m args below meth c H locs res (F0 m 131 ls [.int s0]) := by
  unfold f_X4_task_131 at hr
  exact x_iret M hB (Option.some.inj hr) dX4_task_131
def f_X4_task_0 (a0 : Int32) (a1 : Int32)   (σ : Sg) : Option (Int32 × Sg) :=
cb (f_X4_hasTask_0 a0 σ) fun v_1 σ_2 =>
if v_1 = 0 then
some ((-1), σ_2)
else
if a0 < 0 ∨ 6 ≤ a0.toNatClampNeg then none else
cb (f_X4_isWithin_0 a1 0 7 σ_2) fun v_6 σ_7 =>
if v_6 = 0 then
cb (f_X4_isWithin_0 a1 8 13 σ_7) fun v_10 σ_11 =>
if v_10 = 0 then
if a1 = 14 then
some (σ_11 (3 + 3 + 5 * a0.toNatClampNeg + 2) 0, σ_11)
else
if a1 = 15 then
some (σ_11 (3 + 3 + 5 * a0.toNatClampNeg + 2) 1, σ_11)
else
if a1 = 16 then
some (σ_11 (3 + 3 + 5 * a0.toNatClampNeg) 12, σ_11)
else
if a1 = 17 then
if σ_11 (3 + 3 + 5 * a0.toNatClampNeg) 13 = 0 then
f_X4_task_131 a0 a1  (-6) σ_11
else
f_X4_task_131 a0 a1  (σ_11 (3 + 3 + 5 * a0.toNatClampNeg) 14) σ_11
else
if a1 = 18 then
some (σ_11 (3 + 3 + 5 * a0.toNatClampNeg) 15, σ_11)
else
some ((-2), σ_11)
else
cb (f_X3_momentary_0 (3 + 3 + 5 * a0.toNatClampNeg) a1 σ_11) fun v_25 σ_26 =>
cb (f_X0_ifRunning_0 1 v_25 σ_26) fun v_28 σ_29 =>
some (v_28, σ_29)
else
if a1 < 0 ∨ 8 ≤ a1.toNatClampNeg then none else
some (σ_7 (3 + 3 + 5 * a0.toNatClampNeg + 1) (a1.toNatClampNeg), σ_7)
set_option maxHeartbeats 4000000 in
set_option maxRecDepth 100000 in
theorem w_X4_task_0 {p : Program} {l : Launch} {e : Env} {s : State} {m : MethodId} {args : Array Value} {below : List Frame} {meth : Method} {c : Code} {Γ : GG} {res : Int32 × Sg} (M : MX RX4 cX4_task 4 (some .int) p s m args meth c) (K : KK Γ s s.heap) (a0 : Int32) (a1 : Int32)  (σ : Sg) (H : Heap) (locs : List Loc) (ls : Array Slot)  (hB : Bd Γ σ s H locs) (hl : lv_has ls 4 [(0, .ref (Γ.1 0)), (1, .int a0), (2, .int a1)]) (hr : f_X4_task_0 a0 a1   σ = some res) : WI Γ rm_X4_task p l e s m args below meth c H locs res (F0 m 0 ls []) := by
  unfold f_X4_task_0 at hr
  refine lv_aload_n M.1 M.2.1 dX4_task_0 rfl (lv_at hl 0 rfl) ?_
  refine lv_iload_n M.1 M.2.1 dX4_task_1 rfl (lv_at hl 1 rfl) ?_
  obtain ⟨v_1, σ_2, h_3, hr⟩ := cbd hr
  refine x_callI (x_runV M K hB hl.1 [.int a0] (rest := []) rfl (c_X4_hasTask l Γ a0  σ (v_1, σ_2) h_3) cy_X4_hasTask (x_recv K hB isK_0.2 (ent_4 isK_0.1) rfl) wd_73 ⟨rfl, rfl, Nat.le_of_ble_eq_true rfl, Nat.le_of_ble_eq_true rfl⟩ (Nat.le_of_ble_eq_true rfl) ⟨Nat.zero_le _, Nat.zero_le _⟩ dX4_task_2) hB (fun H locs hB => ?_)
  replace hB : Bd Γ σ_2 s H locs := hB
  refine lv_if_ne (tgt := 10) M.1 M.2.1 dX4_task_5 (by decide) (fun c_4 => ?_) (fun c_4 => ?_)
  · rw [if_neg c_4] at hr
    refine lv_aload_n M.1 M.2.1 dX4_task_10 rfl (lv_at hl 0 rfl) ?_
    refine x_get4 M K hB isK_0 0 (by decide) wd_66 (v := .ref (Γ.1 1)) rfl dX4_task_11 ?_
    refine x_get0 M K hB (isB_1.k) 1 (by decide) wd_71 (v := .ref (Γ.1 3)) rfl dX4_task_14 ?_
    refine lv_iload_n M.1 M.2.1 dX4_task_17 rfl (lv_at hl 1 rfl) ?_
    obtain ⟨g_5, hr⟩ := gd hr
    refine x_aaldT M K hB (isB_1.k2) g_5 dX4_task_18 ?_
    refine lv_astore_n (lv' := [(3, .ref (Γ.1 (3 + 3 + 5 * a0.toNatClampNeg))), (0, .ref (Γ.1 0)), (1, .int a0), (2, .int a1)]) M.1 M.2.1 dX4_task_19 rfl hl (by decide) rfl (fun ls hl => ?_)
    refine lv_iload_n M.1 M.2.1 dX4_task_20 rfl (lv_at hl 3 rfl) ?_
    refine lv_iconst (v := 0) M.1 M.2.1 dX4_task_21 (by decide) ?_
    refine lv_bipush (v := 7) M.1 M.2.1 dX4_task_22 (by decide) ?_
    obtain ⟨v_6, σ_7, h_8, hr⟩ := cbd hr
    refine x_callI (x_runS M K hB hl.1 [.int a1, .int 0, .int 7] (rest := []) rfl (c_X4_isWithin l Γ a1 0 7  σ_2 (v_6, σ_7) h_8) cy_X4_isWithin wd_62 ⟨rfl, rfl, Nat.le_of_ble_eq_true rfl, Nat.le_of_ble_eq_true rfl⟩ (Nat.le_of_ble_eq_true rfl) ⟨Nat.zero_le _, Nat.zero_le _⟩ dX4_task_24) hB (fun H locs hB => ?_)
    replace hB : Bd Γ σ_7 s H locs := hB
    refine lv_if_eq (tgt := 37) M.1 M.2.1 dX4_task_27 (by decide) (fun c_9 => ?_) (fun c_9 => ?_)
    · rw [if_pos c_9] at hr
      refine lv_iload_n M.1 M.2.1 dX4_task_37 rfl (lv_at hl 3 rfl) ?_
      refine lv_bipush (v := 8) M.1 M.2.1 dX4_task_38 (by decide) ?_
      refine lv_bipush (v := 13) M.1 M.2.1 dX4_task_40 (by decide) ?_
      obtain ⟨v_10, σ_11, h_12, hr⟩ := cbd hr
      refine x_callI (x_runS M K hB hl.1 [.int a1, .int 8, .int 13] (rest := []) rfl (c_X4_isWithin l Γ a1 8 13  σ_7 (v_10, σ_11) h_12) cy_X4_isWithin wd_62 ⟨rfl, rfl, Nat.le_of_ble_eq_true rfl, Nat.le_of_ble_eq_true rfl⟩ (Nat.le_of_ble_eq_true rfl) ⟨Nat.zero_le _, Nat.zero_le _⟩ dX4_task_42) hB (fun H locs hB => ?_)
      replace hB : Bd Γ σ_11 s H locs := hB
      refine lv_if_eq (tgt := 61) M.1 M.2.1 dX4_task_45 (by decide) (fun c_13 => ?_) (fun c_13 => ?_)
      · rw [if_pos c_13] at hr
        refine lv_iload_n M.1 M.2.1 dX4_task_61 rfl (lv_at hl 3 rfl) ?_
        by_cases c_14 : a1 = 14
        · rw [if_pos c_14] at hr
          have t_15 : Int32.toInt a1 = 14 := by rw [c_14]; decide
          refine lv_tableIn (off := 34) (tgt := 96) M.1 M.2.1 dX4_task_62 (by rw [t_15]; decide) (by rw [t_15]; decide) (by rw [t_15]; rfl) (by decide) ?_
          refine lv_aload_n M.1 M.2.1 dX4_task_96 rfl (lv_at hl 0 rfl) ?_
          refine x_get3 M K hB ((isB.t isB_1 (vp_lt g_5)).k) 1 (by decide) wd_75 (v := .ref (Γ.1 (3 + 3 + 5 * a0.toNatClampNeg + 2))) rfl dX4_task_97 ?_
          refine lv_iconst (v := 0) M.1 M.2.1 dX4_task_100 (by decide) ?_
          refine x_ialdL M K hB ((isB.t isB_1 (vp_lt g_5)).a2) (k := 0) (by decide) (by decide) dX4_task_101 ?_
          exact x_iret M hB (Option.some.inj hr) dX4_task_102
        · rw [if_neg c_14] at hr
          have t_15 : ¬ Int32.toInt a1 = 14 := lv_neT c_14 (by decide)
          by_cases c_16 : a1 = 15
          · rw [if_pos c_16] at hr
            have t_17 : Int32.toInt a1 = 15 := by rw [c_16]; decide
            refine lv_tableIn (off := 41) (tgt := 103) M.1 M.2.1 dX4_task_62 (by rw [t_17]; decide) (by rw [t_17]; decide) (by rw [t_17]; rfl) (by decide) ?_
            refine lv_aload_n M.1 M.2.1 dX4_task_103 rfl (lv_at hl 0 rfl) ?_
            refine x_get3 M K hB ((isB.t isB_1 (vp_lt g_5)).k) 1 (by decide) wd_75 (v := .ref (Γ.1 (3 + 3 + 5 * a0.toNatClampNeg + 2))) rfl dX4_task_104 ?_
            refine lv_iconst (v := 1) M.1 M.2.1 dX4_task_107 (by decide) ?_
            refine x_ialdL M K hB ((isB.t isB_1 (vp_lt g_5)).a2) (k := 1) (by decide) (by decide) dX4_task_108 ?_
            exact x_iret M hB (Option.some.inj hr) dX4_task_109
          · rw [if_neg c_16] at hr
            have t_17 : ¬ Int32.toInt a1 = 15 := lv_neT c_16 (by decide)
            by_cases c_18 : a1 = 16
            · rw [if_pos c_18] at hr
              have t_19 : Int32.toInt a1 = 16 := by rw [c_18]; decide
              refine lv_tableIn (off := 48) (tgt := 110) M.1 M.2.1 dX4_task_62 (by rw [t_19]; decide) (by rw [t_19]; decide) (by rw [t_19]; rfl) (by decide) ?_
              refine lv_aload_n M.1 M.2.1 dX4_task_110 rfl (lv_at hl 0 rfl) ?_
              refine x_get3 M K hB ((isB.t isB_1 (vp_lt g_5)).k) 12 (by decide) wd_98 (v := .int (σ_11 (3 + 3 + 5 * a0.toNatClampNeg) 12)) rfl dX4_task_111 ?_
              exact x_iret M hB (Option.some.inj hr) dX4_task_114
            · rw [if_neg c_18] at hr
              have t_19 : ¬ Int32.toInt a1 = 16 := lv_neT c_18 (by decide)
              by_cases c_20 : a1 = 17
              · rw [if_pos c_20] at hr
                have t_21 : Int32.toInt a1 = 17 := by rw [c_20]; decide
                refine lv_tableIn (off := 53) (tgt := 115) M.1 M.2.1 dX4_task_62 (by rw [t_21]; decide) (by rw [t_21]; decide) (by rw [t_21]; rfl) (by decide) ?_
                refine lv_aload_n M.1 M.2.1 dX4_task_115 rfl (lv_at hl 0 rfl) ?_
                refine x_get3 M K hB ((isB.t isB_1 (vp_lt g_5)).k) 13 (by decide) wd_99 (v := .int (σ_11 (3 + 3 + 5 * a0.toNatClampNeg) 13)) rfl dX4_task_116 ?_
                refine lv_if_eq (tgt := 129) M.1 M.2.1 dX4_task_119 (by decide) (fun c_22 => ?_) (fun c_22 => ?_)
                · rw [if_pos c_22] at hr
                  refine lv_bipush (v := (-6)) M.1 M.2.1 dX4_task_129 (by decide) ?_
                  exact w_X4_task_131 M K a0 a1  (-6) _ _ _ _  hB (lv_sub hl [] rfl) hr
                · rw [if_neg c_22] at hr
                  refine lv_aload_n M.1 M.2.1 dX4_task_122 rfl (lv_at hl 0 rfl) ?_
                  refine x_get3 M K hB ((isB.t isB_1 (vp_lt g_5)).k) 14 (by decide) wd_100 (v := .int (σ_11 (3 + 3 + 5 * a0.toNatClampNeg) 14)) rfl dX4_task_123 ?_
                  refine lv_goto (tgt := 131) M.1 M.2.1 dX4_task_126 (by decide) ?_
                  exact w_X4_task_131 M K a0 a1  (σ_11 (3 + 3 + 5 * a0.toNatClampNeg) 14) _ _ _ _  hB (lv_sub hl [] rfl) hr
              · rw [if_neg c_20] at hr
                have t_21 : ¬ Int32.toInt a1 = 17 := lv_neT c_20 (by decide)
                by_cases c_23 : a1 = 18
                · rw [if_pos c_23] at hr
                  have t_24 : Int32.toInt a1 = 18 := by rw [c_23]; decide
                  refine lv_tableIn (off := 70) (tgt := 132) M.1 M.2.1 dX4_task_62 (by rw [t_24]; decide) (by rw [t_24]; decide) (by rw [t_24]; rfl) (by decide) ?_
                  refine lv_aload_n M.1 M.2.1 dX4_task_132 rfl (lv_at hl 0 rfl) ?_
                  refine x_get3 M K hB ((isB.t isB_1 (vp_lt g_5)).k) 15 (by decide) wd_101 (v := .int (σ_11 (3 + 3 + 5 * a0.toNatClampNeg) 15)) rfl dX4_task_133 ?_
                  exact x_iret M hB (Option.some.inj hr) dX4_task_136
                · rw [if_neg c_23] at hr
                  have t_24 : ¬ Int32.toInt a1 = 18 := lv_neT c_23 (by decide)
                  refine lv_tableOut (tgt := 137) M.1 M.2.1 dX4_task_62 (by omega) (by decide) ?_
                  refine lv_bipush (v := (-2)) M.1 M.2.1 dX4_task_137 (by decide) ?_
                  exact x_iret M hB (Option.some.inj hr) dX4_task_139
      · rw [if_neg c_13] at hr
        refine lv_aload_n M.1 M.2.1 dX4_task_48 rfl (lv_at hl 1 rfl) ?_
        refine x_get4 M K hB isK_0 0 (by decide) wd_66 (v := .ref (Γ.1 1)) rfl dX4_task_49 ?_
        refine lv_aload_n M.1 M.2.1 dX4_task_52 rfl (lv_at hl 0 rfl) ?_
        refine lv_iload_n M.1 M.2.1 dX4_task_53 rfl (lv_at hl 3 rfl) ?_
        obtain ⟨v_25, σ_26, h_27, hr⟩ := cbd hr
        refine x_callI (x_runV M K hB hl.1 [.int a1] (rest := [.ref (Γ.1 1)]) rfl (c_X3_momentary l Γ (3 + 3 + 5 * a0.toNatClampNeg) a1 (isB.t isB_1 (vp_lt g_5)) σ_11 (v_25, σ_26) h_27) cy_X3_momentary (x_recv K hB ((isB.t isB_1 (vp_lt g_5)).k).2 (ent_3 ((isB.t isB_1 (vp_lt g_5)).k).1) rfl) wd_102 ⟨rfl, rfl, Nat.le_of_ble_eq_true rfl, Nat.le_of_ble_eq_true rfl⟩ (Nat.le_of_ble_eq_true rfl) ⟨Nat.zero_le _, Nat.zero_le _⟩ dX4_task_54) hB (fun H locs hB => ?_)
        replace hB : Bd Γ σ_26 s H locs := hB
        obtain ⟨v_28, σ_29, h_30, hr⟩ := cbd hr
        refine x_callI (x_runV M K hB hl.1 [.int v_25] (rest := []) rfl (c_X0_ifRunning l Γ 1 v_25 isB_1 σ_26 (v_28, σ_29) h_30) cy_X0_ifRunning (x_recv K hB (isB_1.k).2 (ent_0 (isB_1.k).1) rfl) wd_86 ⟨rfl, rfl, Nat.le_of_ble_eq_true rfl, Nat.le_of_ble_eq_true rfl⟩ (Nat.le_of_ble_eq_true rfl) ⟨Nat.zero_le _, Nat.zero_le _⟩ dX4_task_57) hB (fun H locs hB => ?_)
        replace hB : Bd Γ σ_29 s H locs := hB
        exact x_iret M hB (Option.some.inj hr) dX4_task_60
    · rw [if_neg c_9] at hr
      refine lv_aload_n M.1 M.2.1 dX4_task_30 rfl (lv_at hl 0 rfl) ?_
      refine x_get3 M K hB ((isB.t isB_1 (vp_lt g_5)).k) 0 (by decide) wd_74 (v := .ref (Γ.1 (3 + 3 + 5 * a0.toNatClampNeg + 1))) rfl dX4_task_31 ?_
      refine lv_iload_n M.1 M.2.1 dX4_task_34 rfl (lv_at hl 3 rfl) ?_
      obtain ⟨g_31, hr⟩ := gd hr
      refine x_iald M K hB ((isB.t isB_1 (vp_lt g_5)).a1) g_31 dX4_task_35 ?_
      exact x_iret M hB (Option.some.inj hr) dX4_task_36
  · rw [if_pos c_4] at hr
    refine lv_iconst (v := (-1)) M.1 M.2.1 dX4_task_8 (by decide) ?_
    exact x_iret M hB (Option.some.inj hr) dX4_task_9
theorem c_X4_task (l : Launch) (Γ : GG) (a0 : Int32) (a1 : Int32)  (σ : Sg) (res : Int32 × Sg) (hr : f_X4_task_0 a0 a1 σ = some res) : Met l yX4_task (Cond.code yX4_task cX4_task 4 (some .int) :: gtb) rm_X4_task (va_Pc [.ref (Γ.1 0), .int a0, .int a1] (GI Γ σ)) (QI Γ res) 0 0 (AD Γ) :=
  x_metI (by decide) [.ref (Γ.1 0), .int a0, .int a1] (Nat.le_of_ble_eq_true rfl) (fun p e s m args below meth c M K ls hl hB => w_X4_task_0 M K a0 a1 σ _ _ ls hB hl hr)
abbrev rm_X4_record : Room := { frames := 2, cells := 0, slots := 0, locals := 44 }
def f_X4_record_0 (a0 : Int32) (a1 : Int32)   (σ : Sg) : Option (Int32 × Sg) :=
cb (f_X4_isWithin_0 a1 0 4 σ) fun v_1 σ_2 =>
if v_1 = 0 then
some ((-2), σ_2)
else
cb (f_X1_property_0 4 a0 a1 σ_2) fun v_5 σ_6 =>
some (v_5, σ_6)
set_option maxHeartbeats 4000000 in
set_option maxRecDepth 100000 in
theorem w_X4_record_0 {p : Program} {l : Launch} {e : Env} {s : State} {m : MethodId} {args : Array Value} {below : List Frame} {meth : Method} {c : Code} {Γ : GG} {res : Int32 × Sg} (M : MX RX4 cX4_record 3 (some .int) p s m args meth c) (K : KK Γ s s.heap) (a0 : Int32) (a1 : Int32)  (σ : Sg) (H : Heap) (locs : List Loc) (ls : Array Slot)  (hB : Bd Γ σ s H locs) (hl : lv_has ls 3 [(0, .ref (Γ.1 0)), (1, .int a0), (2, .int a1)]) (hr : f_X4_record_0 a0 a1   σ = some res) : WI Γ rm_X4_record p l e s m args below meth c H locs res (F0 m 0 ls []) := by
  unfold f_X4_record_0 at hr
  refine lv_iload_n M.1 M.2.1 dX4_record_0 rfl (lv_at hl 2 rfl) ?_
  refine lv_iconst (v := 0) M.1 M.2.1 dX4_record_1 (by decide) ?_
  refine lv_iconst (v := 4) M.1 M.2.1 dX4_record_2 (by decide) ?_
  obtain ⟨v_1, σ_2, h_3, hr⟩ := cbd hr
  refine x_callI (x_runS M K hB hl.1 [.int a1, .int 0, .int 4] (rest := []) rfl (c_X4_isWithin l Γ a1 0 4  σ (v_1, σ_2) h_3) cy_X4_isWithin wd_62 ⟨rfl, rfl, Nat.le_of_ble_eq_true rfl, Nat.le_of_ble_eq_true rfl⟩ (Nat.le_of_ble_eq_true rfl) ⟨Nat.zero_le _, Nat.zero_le _⟩ dX4_record_3) hB (fun H locs hB => ?_)
  replace hB : Bd Γ σ_2 s H locs := hB
  refine lv_if_ne (tgt := 12) M.1 M.2.1 dX4_record_6 (by decide) (fun c_4 => ?_) (fun c_4 => ?_)
  · rw [if_neg c_4] at hr
    refine lv_aload_n M.1 M.2.1 dX4_record_12 rfl (lv_at hl 0 rfl) ?_
    refine x_get4 M K hB isK_0 0 (by decide) wd_66 (v := .ref (Γ.1 1)) rfl dX4_record_13 ?_
    refine x_get0 M K hB (isB_1.k) 2 (by decide) wd_90 (v := .ref (Γ.1 4)) rfl dX4_record_16 ?_
    refine lv_iload_n M.1 M.2.1 dX4_record_19 rfl (lv_at hl 1 rfl) ?_
    refine lv_iload_n M.1 M.2.1 dX4_record_20 rfl (lv_at hl 2 rfl) ?_
    obtain ⟨v_5, σ_6, h_7, hr⟩ := cbd hr
    refine x_callI (x_runV M K hB hl.1 [.int a0, .int a1] (rest := []) rfl (c_X1_property l Γ 4 a0 a1 isB_1.bk σ_2 (v_5, σ_6) h_7) cy_X1_property (x_recv K hB (isB_1.bk.k).2 (ent_1 (isB_1.bk.k).1) rfl) wd_103 ⟨rfl, rfl, Nat.le_of_ble_eq_true rfl, Nat.le_of_ble_eq_true rfl⟩ (Nat.le_of_ble_eq_true rfl) ⟨Nat.zero_le _, Nat.zero_le _⟩ dX4_record_21) hB (fun H locs hB => ?_)
    replace hB : Bd Γ σ_6 s H locs := hB
    exact x_iret M hB (Option.some.inj hr) dX4_record_24
  · rw [if_pos c_4] at hr
    refine lv_bipush (v := (-2)) M.1 M.2.1 dX4_record_9 (by decide) ?_
    exact x_iret M hB (Option.some.inj hr) dX4_record_11
theorem c_X4_record (l : Launch) (Γ : GG) (a0 : Int32) (a1 : Int32)  (σ : Sg) (res : Int32 × Sg) (hr : f_X4_record_0 a0 a1 σ = some res) : Met l yX4_record (Cond.code yX4_record cX4_record 3 (some .int) :: gtb) rm_X4_record (va_Pc [.ref (Γ.1 0), .int a0, .int a1] (GI Γ σ)) (QI Γ res) 0 0 (AD Γ) :=
  x_metI (by decide) [.ref (Γ.1 0), .int a0, .int a1] (Nat.le_of_ble_eq_true rfl) (fun p e s m args below meth c M K ls hl hB => w_X4_record_0 M K a0 a1 σ _ _ ls hB hl hr)
end
section
abbrev rm_L_cell : Room := { frames := 0, cells := 0, slots := 0, locals := 0 }
def f_L_cell_28 (D : SD) (a1 : Int32) (a2 : Int32)  (x2 : Int32) (s0 : Int32) (σ : Sg) : Option (Int32 × Sg) :=
if x2 = 0 then none else
some (s0 - s0 / x2 * x2, σ)
set_option maxHeartbeats 4000000 in
set_option maxRecDepth 100000 in
theorem w_L_cell_28 {p : Program} {l : Launch} {e : Env} {s : State} {m : MethodId} {args : Array Value} {below : List Frame} {meth : Method} {c : Code} {Γ : GG} {res : Int32 × Sg} (M : MX RL cL_cell 3 (some .int) p s m args meth c) (K : KK Γ s s.heap) {D : SD} (hD : gX Γ = D) (a1 : Int32) (a2 : Int32) (x2 : Int32) (s0 : Int32) (σ : Sg) (H : Heap) (locs : List Loc) (ls : Array Slot)  (hB : Bd Γ σ s H locs) (hl : lv_has ls 3 [(2, .int x2)]) (hr : f_L_cell_28 D a1 a2  x2 s0 σ = some res) : WI Γ rm_L_cell p l e s m args below meth c H locs res (F0 m 28 ls [.int s0]) := by
  unfold f_L_cell_28 at hr
  refine lv_iload_n M.1 M.2.1 dL_cell_28 rfl (lv_at hl 0 rfl) ?_
  obtain ⟨g_4, hr⟩ := gd hr
  refine lv_irem M.1 M.2.1 dL_cell_29 g_4 ?_
  exact x_iret M hB (Option.some.inj hr) dL_cell_30
def f_L_cell_0 (D : SD) (a1 : Int32) (a2 : Int32)   (σ : Sg) : Option (Int32 × Sg) :=
if Int32.ofNat D.1 = 0 then
f_L_cell_28 D a1 a2  a2 ((a1 * 37) + 5) σ
else
if Int32.ofNat D.1 = 0 then none else
if a1 - a1 / (Int32.ofNat D.1) * (Int32.ofNat D.1) < 0 ∨ D.1 ≤ (a1 - a1 / (Int32.ofNat D.1) * (Int32.ofNat D.1)).toNatClampNeg then none else
f_L_cell_28 D a1 a2  a2 (((D.2 ((a1 - a1 / (Int32.ofNat D.1) * (Int32.ofNat D.1)).toNatClampNeg)) >>> ((a1 - a1 / 7 * 7) &&& 31)) &&& 4194303) σ
set_option maxHeartbeats 4000000 in
set_option maxRecDepth 100000 in
theorem w_L_cell_0 {p : Program} {l : Launch} {e : Env} {s : State} {m : MethodId} {args : Array Value} {below : List Frame} {meth : Method} {c : Code} {Γ : GG} {res : Int32 × Sg} (M : MX RL cL_cell 3 (some .int) p s m args meth c) (K : KK Γ s s.heap) {D : SD} (hD : gX Γ = D) (a1 : Int32) (a2 : Int32)  (σ : Sg) (H : Heap) (locs : List Loc) (ls : Array Slot)  (hB : Bd Γ σ s H locs) (hl : lv_has ls 3 [(0, .ref (gS Γ 6)), (1, .int a1), (2, .int a2)]) (hr : f_L_cell_0 D a1 a2   σ = some res) : WI Γ rm_L_cell p l e s m args below meth c H locs res (F0 m 0 ls []) := by
  unfold f_L_cell_0 at hr
  refine lv_aload_n M.1 M.2.1 dL_cell_0 rfl (lv_at hl 0 rfl) ?_
  refine x_slen M K hB hD dL_cell_1 ?_
  refine lv_if_ne (tgt := 14) M.1 M.2.1 dL_cell_2 (by decide) (fun c_1 => ?_) (fun c_1 => ?_)
  · rw [if_neg c_1] at hr
    refine lv_aload_n M.1 M.2.1 dL_cell_14 rfl (lv_at hl 0 rfl) ?_
    refine lv_iload_n M.1 M.2.1 dL_cell_15 rfl (lv_at hl 1 rfl) ?_
    refine lv_aload_n M.1 M.2.1 dL_cell_16 rfl (lv_at hl 0 rfl) ?_
    refine x_slen M K hB hD dL_cell_17 ?_
    obtain ⟨g_2, hr⟩ := gd hr
    refine lv_irem M.1 M.2.1 dL_cell_18 g_2 ?_
    obtain ⟨g_3, hr⟩ := gd hr
    refine x_sld M K hB hD g_3 dL_cell_19 ?_
    refine lv_iload_n M.1 M.2.1 dL_cell_20 rfl (lv_at hl 1 rfl) ?_
    refine lv_bipush (v := 7) M.1 M.2.1 dL_cell_21 (by decide) ?_
    refine lv_irem M.1 M.2.1 dL_cell_23 (by decide) ?_
    refine lv_ishr M.1 M.2.1 dL_cell_24 ?_
    refine x_ldc (v := 4194303) M wd_104 dL_cell_25 ?_
    refine lv_iand M.1 M.2.1 dL_cell_27 ?_
    exact w_L_cell_28 M K hD a1 a2  a2 (((D.2 ((a1 - a1 / (Int32.ofNat D.1) * (Int32.ofNat D.1)).toNatClampNeg)) >>> ((a1 - a1 / 7 * 7) &&& 31)) &&& 4194303) _ _ _ _  hB (lv_sub hl [2] rfl) hr
  · rw [if_pos c_1] at hr
    refine lv_iload_n M.1 M.2.1 dL_cell_5 rfl (lv_at hl 1 rfl) ?_
    refine lv_bipush (v := 37) M.1 M.2.1 dL_cell_6 (by decide) ?_
    refine lv_imul M.1 M.2.1 dL_cell_8 ?_
    refine lv_iconst (v := 5) M.1 M.2.1 dL_cell_9 (by decide) ?_
    refine lv_iadd M.1 M.2.1 dL_cell_10 ?_
    refine lv_goto (tgt := 28) M.1 M.2.1 dL_cell_11 (by decide) ?_
    exact w_L_cell_28 M K hD a1 a2  a2 ((a1 * 37) + 5) _ _ _ _  hB (lv_sub hl [2] rfl) hr
theorem c_L_cell (l : Launch) (Γ : GG) (D : SD) (a1 : Int32) (a2 : Int32) (hD : gX Γ = D) (σ : Sg) (res : Int32 × Sg) (hr : f_L_cell_0 D a1 a2 σ = some res) : Met l yL_cell (Cond.code yL_cell cL_cell 3 (some .int) :: gtb) rm_L_cell (va_Pc [.ref (gS Γ 6), .int a1, .int a2] (GI Γ σ)) (QI Γ res) 0 0 (AD Γ) :=
  x_metI (by decide) [.ref (gS Γ 6), .int a1, .int a2] (Nat.le_of_ble_eq_true rfl) (fun p e s m args below meth c M K ls hl hB => w_L_cell_0 M K hD a1 a2 σ _ _ ls hB hl hr)
abbrev rm_L_crashes : Room := { frames := 3, cells := 0, slots := 0, locals := 66 }
def f_L_crashes_296 (a4 : Int32)  (s0 : Int32) (s1 : Int32) (σ : Sg) : Option (Int32 × Sg) :=
if s1 < 0 ∨ 30 ≤ s1.toNatClampNeg then none else
wb (st σ 151 (s1.toNatClampNeg) s0) fun σ_63 =>
some (0, σ_63)
set_option maxHeartbeats 4000000 in
set_option maxRecDepth 100000 in
theorem w_L_crashes_296 {p : Program} {l : Launch} {e : Env} {s : State} {m : MethodId} {args : Array Value} {below : List Frame} {meth : Method} {c : Code} {Γ : GG} {res : Int32 × Sg} (M : MX RL cL_crashes 9 (some .boolean) p s m args meth c) (K : KK Γ s s.heap) (a4 : Int32) (s0 : Int32) (s1 : Int32) (σ : Sg) (H : Heap) (locs : List Loc) (ls : Array Slot)  (hB : Bd Γ σ s H locs) (hl : lv_has ls 9 []) (hr : f_L_crashes_296 a4  s0 s1 σ = some res) : WI Γ rm_L_crashes p l e s m args below meth c H locs res (F0 m 296 ls [.int s0, .int s1, .ref (Γ.1 151)]) := by
  unfold f_L_crashes_296 at hr
  obtain ⟨g_62, hr⟩ := gd hr
  obtain ⟨σ_63, e_64, hr⟩ := wbd hr
  refine x_iast M K hB isA_151 g_62 dL_crashes_296 (fun H locs hB => ?_)
  rw [← e_64] at hB
  refine lv_iconst (v := 0) M.1 M.2.1 dL_crashes_297 (by decide) ?_
  exact x_zret M hB (nar_z (by decide)) (Option.some.inj hr) dL_crashes_298
def f_L_crashes_289 (a4 : Int32)  (x5 : Int32) (s0 : Int32) (σ : Sg) : Option (Int32 × Sg) :=
if x5 + 6 < 0 ∨ 30 ≤ (x5 + 6).toNatClampNeg then none else
f_L_crashes_296 a4  (σ 151 ((x5 + 6).toNatClampNeg)) s0 σ
set_option maxHeartbeats 4000000 in
set_option maxRecDepth 100000 in
theorem w_L_crashes_289 {p : Program} {l : Launch} {e : Env} {s : State} {m : MethodId} {args : Array Value} {below : List Frame} {meth : Method} {c : Code} {Γ : GG} {res : Int32 × Sg} (M : MX RL cL_crashes 9 (some .boolean) p s m args meth c) (K : KK Γ s s.heap) (a4 : Int32) (x5 : Int32) (s0 : Int32) (σ : Sg) (H : Heap) (locs : List Loc) (ls : Array Slot)  (hB : Bd Γ σ s H locs) (hl : lv_has ls 9 [(2, .ref (Γ.1 151)), (5, .int x5)]) (hr : f_L_crashes_289 a4  x5 s0 σ = some res) : WI Γ rm_L_crashes p l e s m args below meth c H locs res (F0 m 289 ls [.int s0, .ref (Γ.1 151)]) := by
  unfold f_L_crashes_289 at hr
  refine lv_aload_n M.1 M.2.1 dL_crashes_289 rfl (lv_at hl 0 rfl) ?_
  refine lv_iload M.1 M.2.1 dL_crashes_290 (lv_at hl 1 rfl) ?_
  refine lv_bipush (v := 6) M.1 M.2.1 dL_crashes_292 (by decide) ?_
  refine lv_iadd M.1 M.2.1 dL_crashes_294 ?_
  obtain ⟨g_65, hr⟩ := gd hr
  refine x_iald M K hB isA_151 g_65 dL_crashes_295 ?_
  exact w_L_crashes_296 M K a4  (σ 151 ((x5 + 6).toNatClampNeg)) s0 _ _ _ _  hB (lv_sub hl [] rfl) hr
def f_L_crashes_239 (a4 : Int32)  (x4 : Int32) (x5 : Int32) (σ : Sg) : Option (Int32 × Sg) :=
cb (f_X4_task_0 x4 7 σ) fun v_54 σ_55 =>
if x5 + 0 < 0 ∨ 30 ≤ (x5 + 0).toNatClampNeg then none else
if σ_55 151 ((x5 + 0).toNatClampNeg) = 1 then
if v_54 ≤ 0 then
f_L_crashes_289 a4  x5 (x5 + 6) σ_55
else
if x5 + 2 < 0 ∨ 30 ≤ (x5 + 2).toNatClampNeg then none else
if (σ_55 150 4) - (σ_55 151 ((x5 + 2).toNatClampNeg)) ≤ v_54 then
f_L_crashes_289 a4  x5 (x5 + 6) σ_55
else
f_L_crashes_296 a4  1 (x5 + 6) σ_55
else
f_L_crashes_289 a4  x5 (x5 + 6) σ_55
set_option maxHeartbeats 4000000 in
set_option maxRecDepth 100000 in
theorem w_L_crashes_239 {p : Program} {l : Launch} {e : Env} {s : State} {m : MethodId} {args : Array Value} {below : List Frame} {meth : Method} {c : Code} {Γ : GG} {res : Int32 × Sg} (M : MX RL cL_crashes 9 (some .boolean) p s m args meth c) (K : KK Γ s s.heap) (a4 : Int32) (x4 : Int32) (x5 : Int32) (σ : Sg) (H : Heap) (locs : List Loc) (ls : Array Slot)  (hB : Bd Γ σ s H locs) (hl : lv_has ls 9 [(0, .ref (Γ.1 0)), (1, .ref (Γ.1 150)), (2, .ref (Γ.1 151)), (4, .int x4), (5, .int x5)]) (hr : f_L_crashes_239 a4  x4 x5 σ = some res) : WI Γ rm_L_crashes p l e s m args below meth c H locs res (F0 m 239 ls []) := by
  unfold f_L_crashes_239 at hr
  refine lv_aload_n M.1 M.2.1 dL_crashes_239 rfl (lv_at hl 0 rfl) ?_
  refine lv_iload M.1 M.2.1 dL_crashes_240 (lv_at hl 3 rfl) ?_
  refine lv_bipush (v := 7) M.1 M.2.1 dL_crashes_242 (by decide) ?_
  obtain ⟨v_54, σ_55, h_56, hr⟩ := cbd hr
  refine x_callI (x_runV M K hB hl.1 [.int x4, .int 7] (rest := []) rfl (c_X4_task l Γ x4 7  σ (v_54, σ_55) h_56) cy_X4_task (x_recv K hB isK_0.2 (ent_4 isK_0.1) rfl) wd_105 ⟨rfl, rfl, Nat.le_of_ble_eq_true rfl, Nat.le_of_ble_eq_true rfl⟩ (Nat.le_of_ble_eq_true rfl) ⟨Nat.zero_le _, Nat.zero_le _⟩ dL_crashes_244) hB (fun H locs hB => ?_)
  replace hB : Bd Γ σ_55 s H locs := hB
  refine lv_istore (lv' := [(8, .int v_54), (0, .ref (Γ.1 0)), (1, .ref (Γ.1 150)), (2, .ref (Γ.1 151)), (4, .int x4), (5, .int x5)]) M.1 M.2.1 dL_crashes_247 hl (by decide) rfl (fun ls hl => ?_)
  refine lv_aload_n M.1 M.2.1 dL_crashes_249 rfl (lv_at hl 3 rfl) ?_
  refine lv_iload M.1 M.2.1 dL_crashes_250 (lv_at hl 5 rfl) ?_
  refine lv_bipush (v := 6) M.1 M.2.1 dL_crashes_252 (by decide) ?_
  refine lv_iadd M.1 M.2.1 dL_crashes_254 ?_
  refine lv_aload_n M.1 M.2.1 dL_crashes_255 rfl (lv_at hl 3 rfl) ?_
  refine lv_iload M.1 M.2.1 dL_crashes_256 (lv_at hl 5 rfl) ?_
  refine lv_iconst (v := 0) M.1 M.2.1 dL_crashes_258 (by decide) ?_
  refine lv_iadd M.1 M.2.1 dL_crashes_259 ?_
  obtain ⟨g_57, hr⟩ := gd hr
  refine x_iald M K hB isA_151 g_57 dL_crashes_260 ?_
  refine lv_iconst (v := 1) M.1 M.2.1 dL_crashes_261 (by decide) ?_
  refine lv_icmp_ne (tgt := 289) M.1 M.2.1 dL_crashes_262 (by decide) (fun c_58 => ?_) (fun c_58 => ?_)
  · rw [if_neg c_58] at hr
    exact w_L_crashes_289 M K a4  x5 (x5 + 6) _ _ _ _  hB (lv_sub hl [3, 5] rfl) hr
  · rw [if_pos c_58] at hr
    refine lv_iload M.1 M.2.1 dL_crashes_265 (lv_at hl 0 rfl) ?_
    refine lv_if_le (tgt := 289) M.1 M.2.1 dL_crashes_267 (by decide) (fun c_59 => ?_) (fun c_59 => ?_)
    · rw [if_pos c_59] at hr
      exact w_L_crashes_289 M K a4  x5 (x5 + 6) _ _ _ _  hB (lv_sub hl [3, 5] rfl) hr
    · rw [if_neg c_59] at hr
      refine lv_aload_n M.1 M.2.1 dL_crashes_270 rfl (lv_at hl 2 rfl) ?_
      refine lv_iconst (v := 4) M.1 M.2.1 dL_crashes_271 (by decide) ?_
      refine x_ialdL M K hB isA_150 (k := 4) (by decide) (by decide) dL_crashes_272 ?_
      refine lv_aload_n M.1 M.2.1 dL_crashes_273 rfl (lv_at hl 3 rfl) ?_
      refine lv_iload M.1 M.2.1 dL_crashes_274 (lv_at hl 5 rfl) ?_
      refine lv_iconst (v := 2) M.1 M.2.1 dL_crashes_276 (by decide) ?_
      refine lv_iadd M.1 M.2.1 dL_crashes_277 ?_
      obtain ⟨g_60, hr⟩ := gd hr
      refine x_iald M K hB isA_151 g_60 dL_crashes_278 ?_
      refine lv_isub M.1 M.2.1 dL_crashes_279 ?_
      refine lv_iload M.1 M.2.1 dL_crashes_280 (lv_at hl 0 rfl) ?_
      refine lv_icmp_le (tgt := 289) M.1 M.2.1 dL_crashes_282 (by decide) (fun c_61 => ?_) (fun c_61 => ?_)
      · rw [if_pos c_61] at hr
        exact w_L_crashes_289 M K a4  x5 (x5 + 6) _ _ _ _  hB (lv_sub hl [3, 5] rfl) hr
      · rw [if_neg c_61] at hr
        refine lv_iconst (v := 1) M.1 M.2.1 dL_crashes_285 (by decide) ?_
        refine lv_goto (tgt := 296) M.1 M.2.1 dL_crashes_286 (by decide) ?_
        exact w_L_crashes_296 M K a4  1 (x5 + 6) _ _ _ _  hB (lv_sub hl [] rfl) hr
def f_L_crashes_237 (a4 : Int32)  (x4 : Int32) (x5 : Int32) (s0 : Int32) (s1 : Int32) (s2 : Int32) (σ : Sg) : Option (Int32 × Sg) :=
if s2 < 0 ∨ 30 ≤ s2.toNatClampNeg then none else
wb (st σ 151 (s2.toNatClampNeg) (s1 + s0)) fun σ_52 =>
f_L_crashes_239 a4  x4 x5 σ_52
set_option maxHeartbeats 4000000 in
set_option maxRecDepth 100000 in
theorem w_L_crashes_237 {p : Program} {l : Launch} {e : Env} {s : State} {m : MethodId} {args : Array Value} {below : List Frame} {meth : Method} {c : Code} {Γ : GG} {res : Int32 × Sg} (M : MX RL cL_crashes 9 (some .boolean) p s m args meth c) (K : KK Γ s s.heap) (a4 : Int32) (x4 : Int32) (x5 : Int32) (s0 : Int32) (s1 : Int32) (s2 : Int32) (σ : Sg) (H : Heap) (locs : List Loc) (ls : Array Slot)  (hB : Bd Γ σ s H locs) (hl : lv_has ls 9 [(0, .ref (Γ.1 0)), (1, .ref (Γ.1 150)), (2, .ref (Γ.1 151)), (4, .int x4), (5, .int x5)]) (hr : f_L_crashes_237 a4  x4 x5 s0 s1 s2 σ = some res) : WI Γ rm_L_crashes p l e s m args below meth c H locs res (F0 m 237 ls [.int s0, .int s1, .int s2, .ref (Γ.1 151)]) := by
  unfold f_L_crashes_237 at hr
  refine lv_iadd M.1 M.2.1 dL_crashes_237 ?_
  obtain ⟨g_51, hr⟩ := gd hr
  obtain ⟨σ_52, e_53, hr⟩ := wbd hr
  refine x_iast M K hB isA_151 g_51 dL_crashes_238 (fun H locs hB => ?_)
  rw [← e_53] at hB
  exact w_L_crashes_239 M K a4  x4 x5 _ _ _ _  hB (lv_sub hl [0, 1, 2, 3, 4] rfl) hr
def f_L_crashes_208 (a4 : Int32)  (x4 : Int32) (x5 : Int32) (x8 : Int32) (s0 : Int32) (s1 : Int32) (σ : Sg) : Option (Int32 × Sg) :=
if s1 < 0 ∨ 30 ≤ s1.toNatClampNeg then none else
wb (st σ 151 (s1.toNatClampNeg) s0) fun σ_46 =>
if x5 + 4 < 0 ∨ 30 ≤ (x5 + 4).toNatClampNeg then none else
if x8 = 3 then
f_L_crashes_237 a4  x4 x5 0 (σ_46 151 ((x5 + 4).toNatClampNeg)) (x5 + 4) σ_46
else
if x8 = 4 then
f_L_crashes_237 a4  x4 x5 2 (σ_46 151 ((x5 + 4).toNatClampNeg)) (x5 + 4) σ_46
else
f_L_crashes_237 a4  x4 x5 1 (σ_46 151 ((x5 + 4).toNatClampNeg)) (x5 + 4) σ_46
set_option maxHeartbeats 4000000 in
set_option maxRecDepth 100000 in
theorem w_L_crashes_208 {p : Program} {l : Launch} {e : Env} {s : State} {m : MethodId} {args : Array Value} {below : List Frame} {meth : Method} {c : Code} {Γ : GG} {res : Int32 × Sg} (M : MX RL cL_crashes 9 (some .boolean) p s m args meth c) (K : KK Γ s s.heap) (a4 : Int32) (x4 : Int32) (x5 : Int32) (x8 : Int32) (s0 : Int32) (s1 : Int32) (σ : Sg) (H : Heap) (locs : List Loc) (ls : Array Slot)  (hB : Bd Γ σ s H locs) (hl : lv_has ls 9 [(0, .ref (Γ.1 0)), (1, .ref (Γ.1 150)), (2, .ref (Γ.1 151)), (4, .int x4), (5, .int x5), (8, .int x8)]) (hr : f_L_crashes_208 a4  x4 x5 x8 s0 s1 σ = some res) : WI Γ rm_L_crashes p l e s m args below meth c H locs res (F0 m 208 ls [.int s0, .int s1, .ref (Γ.1 151)]) := by
  unfold f_L_crashes_208 at hr
  obtain ⟨g_45, hr⟩ := gd hr
  obtain ⟨σ_46, e_47, hr⟩ := wbd hr
  refine x_iast M K hB isA_151 g_45 dL_crashes_208 (fun H locs hB => ?_)
  rw [← e_47] at hB
  refine lv_aload_n M.1 M.2.1 dL_crashes_209 rfl (lv_at hl 2 rfl) ?_
  refine lv_iload M.1 M.2.1 dL_crashes_210 (lv_at hl 4 rfl) ?_
  refine lv_iconst (v := 4) M.1 M.2.1 dL_crashes_212 (by decide) ?_
  refine lv_iadd M.1 M.2.1 dL_crashes_213 ?_
  refine lv_dup2_11 M.1 M.2.1 dL_crashes_214 rfl rfl ?_
  obtain ⟨g_48, hr⟩ := gd hr
  refine x_iald M K hB isA_151 g_48 dL_crashes_215 ?_
  refine lv_iload M.1 M.2.1 dL_crashes_216 (lv_at hl 5 rfl) ?_
  refine lv_iconst (v := 3) M.1 M.2.1 dL_crashes_218 (by decide) ?_
  refine lv_icmp_ne (tgt := 226) M.1 M.2.1 dL_crashes_219 (by decide) (fun c_49 => ?_) (fun c_49 => ?_)
  · rw [if_neg c_49] at hr
    refine lv_iload M.1 M.2.1 dL_crashes_226 (lv_at hl 5 rfl) ?_
    refine lv_iconst (v := 4) M.1 M.2.1 dL_crashes_228 (by decide) ?_
    refine lv_icmp_ne (tgt := 236) M.1 M.2.1 dL_crashes_229 (by decide) (fun c_50 => ?_) (fun c_50 => ?_)
    · rw [if_neg c_50] at hr
      refine lv_iconst (v := 1) M.1 M.2.1 dL_crashes_236 (by decide) ?_
      exact w_L_crashes_237 M K a4  x4 x5 1 (σ_46 151 ((x5 + 4).toNatClampNeg)) (x5 + 4) _ _ _ _  hB (lv_sub hl [0, 1, 2, 3, 4] rfl) hr
    · rw [if_pos c_50] at hr
      refine lv_iconst (v := 2) M.1 M.2.1 dL_crashes_232 (by decide) ?_
      refine lv_goto (tgt := 237) M.1 M.2.1 dL_crashes_233 (by decide) ?_
      exact w_L_crashes_237 M K a4  x4 x5 2 (σ_46 151 ((x5 + 4).toNatClampNeg)) (x5 + 4) _ _ _ _  hB (lv_sub hl [0, 1, 2, 3, 4] rfl) hr
  · rw [if_pos c_49] at hr
    refine lv_iconst (v := 0) M.1 M.2.1 dL_crashes_222 (by decide) ?_
    refine lv_goto (tgt := 237) M.1 M.2.1 dL_crashes_223 (by decide) ?_
    exact w_L_crashes_237 M K a4  x4 x5 0 (σ_46 151 ((x5 + 4).toNatClampNeg)) (x5 + 4) _ _ _ _  hB (lv_sub hl [0, 1, 2, 3, 4] rfl) hr
def f_L_crashes_207 (a4 : Int32)  (x4 : Int32) (x5 : Int32) (x8 : Int32) (s0 : Int32) (s1 : Int32) (s2 : Int32) (σ : Sg) : Option (Int32 × Sg) :=
f_L_crashes_208 a4  x4 x5 x8 (s1 + s0) s2 σ
set_option maxHeartbeats 4000000 in
set_option maxRecDepth 100000 in
theorem w_L_crashes_207 {p : Program} {l : Launch} {e : Env} {s : State} {m : MethodId} {args : Array Value} {below : List Frame} {meth : Method} {c : Code} {Γ : GG} {res : Int32 × Sg} (M : MX RL cL_crashes 9 (some .boolean) p s m args meth c) (K : KK Γ s s.heap) (a4 : Int32) (x4 : Int32) (x5 : Int32) (x8 : Int32) (s0 : Int32) (s1 : Int32) (s2 : Int32) (σ : Sg) (H : Heap) (locs : List Loc) (ls : Array Slot)  (hB : Bd Γ σ s H locs) (hl : lv_has ls 9 [(0, .ref (Γ.1 0)), (1, .ref (Γ.1 150)), (2, .ref (Γ.1 151)), (4, .int x4), (5, .int x5), (8, .int x8)]) (hr : f_L_crashes_207 a4  x4 x5 x8 s0 s1 s2 σ = some res) : WI Γ rm_L_crashes p l e s m args below meth c H locs res (F0 m 207 ls [.int s0, .int s1, .int s2, .ref (Γ.1 151)]) := by
  unfold f_L_crashes_207 at hr
  refine lv_iadd M.1 M.2.1 dL_crashes_207 ?_
  exact w_L_crashes_208 M K a4  x4 x5 x8 (s1 + s0) s2 _ _ _ _  hB (lv_sub hl [0, 1, 2, 3, 4, 5] rfl) hr
def f_L_crashes_159 (a4 : Int32)  (x4 : Int32) (x5 : Int32) (x6 : Int32) (x8 : Int32) (s0 : Int32) (s1 : Int32) (σ : Sg) : Option (Int32 × Sg) :=
if s1 < 0 ∨ 30 ≤ s1.toNatClampNeg then none else
wb (st σ 151 (s1.toNatClampNeg) s0) fun σ_34 =>
if x5 + 2 < 0 ∨ 30 ≤ (x5 + 2).toNatClampNeg then none else
wb (st σ_34 151 ((x5 + 2).toNatClampNeg) (σ_34 150 4)) fun σ_37 =>
if x8 = 1 then
f_L_crashes_208 a4  x4 x5 x8 0 (x5 + 3) σ_37
else
cb (f_X4_task_0 x4 1 σ_37) fun v_40 σ_41 =>
if x8 = 2 then
if x6 + 2 < 0 ∨ 18 ≤ (x6 + 2).toNatClampNeg then none else
f_L_crashes_207 a4  x4 x5 x8 (σ_41 152 ((x6 + 2).toNatClampNeg)) v_40 (x5 + 3) σ_41
else
f_L_crashes_207 a4  x4 x5 x8 0 v_40 (x5 + 3) σ_41
set_option maxHeartbeats 4000000 in
set_option maxRecDepth 100000 in
theorem w_L_crashes_159 {p : Program} {l : Launch} {e : Env} {s : State} {m : MethodId} {args : Array Value} {below : List Frame} {meth : Method} {c : Code} {Γ : GG} {res : Int32 × Sg} (M : MX RL cL_crashes 9 (some .boolean) p s m args meth c) (K : KK Γ s s.heap) (a4 : Int32) (x4 : Int32) (x5 : Int32) (x6 : Int32) (x8 : Int32) (s0 : Int32) (s1 : Int32) (σ : Sg) (H : Heap) (locs : List Loc) (ls : Array Slot)  (hB : Bd Γ σ s H locs) (hl : lv_has ls 9 [(0, .ref (Γ.1 0)), (1, .ref (Γ.1 150)), (2, .ref (Γ.1 151)), (3, .ref (Γ.1 152)), (4, .int x4), (5, .int x5), (6, .int x6), (8, .int x8)]) (hr : f_L_crashes_159 a4  x4 x5 x6 x8 s0 s1 σ = some res) : WI Γ rm_L_crashes p l e s m args below meth c H locs res (F0 m 159 ls [.int s0, .int s1, .ref (Γ.1 151)]) := by
  unfold f_L_crashes_159 at hr
  obtain ⟨g_33, hr⟩ := gd hr
  obtain ⟨σ_34, e_35, hr⟩ := wbd hr
  refine x_iast M K hB isA_151 g_33 dL_crashes_159 (fun H locs hB => ?_)
  rw [← e_35] at hB
  refine lv_aload_n M.1 M.2.1 dL_crashes_160 rfl (lv_at hl 2 rfl) ?_
  refine lv_iload M.1 M.2.1 dL_crashes_161 (lv_at hl 5 rfl) ?_
  refine lv_iconst (v := 2) M.1 M.2.1 dL_crashes_163 (by decide) ?_
  refine lv_iadd M.1 M.2.1 dL_crashes_164 ?_
  refine lv_aload_n M.1 M.2.1 dL_crashes_165 rfl (lv_at hl 1 rfl) ?_
  refine lv_iconst (v := 4) M.1 M.2.1 dL_crashes_166 (by decide) ?_
  refine x_ialdL M K hB isA_150 (k := 4) (by decide) (by decide) dL_crashes_167 ?_
  obtain ⟨g_36, hr⟩ := gd hr
  obtain ⟨σ_37, e_38, hr⟩ := wbd hr
  refine x_iast M K hB isA_151 g_36 dL_crashes_168 (fun H locs hB => ?_)
  rw [← e_38] at hB
  refine lv_aload_n M.1 M.2.1 dL_crashes_169 rfl (lv_at hl 2 rfl) ?_
  refine lv_iload M.1 M.2.1 dL_crashes_170 (lv_at hl 5 rfl) ?_
  refine lv_iconst (v := 3) M.1 M.2.1 dL_crashes_172 (by decide) ?_
  refine lv_iadd M.1 M.2.1 dL_crashes_173 ?_
  refine lv_iload M.1 M.2.1 dL_crashes_174 (lv_at hl 7 rfl) ?_
  refine lv_iconst (v := 1) M.1 M.2.1 dL_crashes_176 (by decide) ?_
  refine lv_icmp_ne (tgt := 184) M.1 M.2.1 dL_crashes_177 (by decide) (fun c_39 => ?_) (fun c_39 => ?_)
  · rw [if_neg c_39] at hr
    refine lv_aload_n M.1 M.2.1 dL_crashes_184 rfl (lv_at hl 0 rfl) ?_
    refine lv_iload M.1 M.2.1 dL_crashes_185 (lv_at hl 4 rfl) ?_
    refine lv_iconst (v := 1) M.1 M.2.1 dL_crashes_187 (by decide) ?_
    obtain ⟨v_40, σ_41, h_42, hr⟩ := cbd hr
    refine x_callI (x_runV M K hB hl.1 [.int x4, .int 1] (rest := [.int (x5 + 3), .ref (Γ.1 151)]) rfl (c_X4_task l Γ x4 1  σ_37 (v_40, σ_41) h_42) cy_X4_task (x_recv K hB isK_0.2 (ent_4 isK_0.1) rfl) wd_105 ⟨rfl, rfl, Nat.le_of_ble_eq_true rfl, Nat.le_of_ble_eq_true rfl⟩ (Nat.le_of_ble_eq_true rfl) ⟨Nat.zero_le _, Nat.zero_le _⟩ dL_crashes_188) hB (fun H locs hB => ?_)
    replace hB : Bd Γ σ_41 s H locs := hB
    refine lv_iload M.1 M.2.1 dL_crashes_191 (lv_at hl 7 rfl) ?_
    refine lv_iconst (v := 2) M.1 M.2.1 dL_crashes_193 (by decide) ?_
    refine lv_icmp_ne (tgt := 206) M.1 M.2.1 dL_crashes_194 (by decide) (fun c_43 => ?_) (fun c_43 => ?_)
    · rw [if_neg c_43] at hr
      refine lv_iconst (v := 0) M.1 M.2.1 dL_crashes_206 (by decide) ?_
      exact w_L_crashes_207 M K a4  x4 x5 x8 0 v_40 (x5 + 3) _ _ _ _  hB (lv_sub hl [0, 1, 2, 4, 5, 7] rfl) hr
    · rw [if_pos c_43] at hr
      refine lv_aload_n M.1 M.2.1 dL_crashes_197 rfl (lv_at hl 3 rfl) ?_
      refine lv_iload M.1 M.2.1 dL_crashes_198 (lv_at hl 6 rfl) ?_
      refine lv_iconst (v := 2) M.1 M.2.1 dL_crashes_200 (by decide) ?_
      refine lv_iadd M.1 M.2.1 dL_crashes_201 ?_
      obtain ⟨g_44, hr⟩ := gd hr
      refine x_iald M K hB isA_152 g_44 dL_crashes_202 ?_
      refine lv_goto (tgt := 207) M.1 M.2.1 dL_crashes_203 (by decide) ?_
      exact w_L_crashes_207 M K a4  x4 x5 x8 (σ_41 152 ((x6 + 2).toNatClampNeg)) v_40 (x5 + 3) _ _ _ _  hB (lv_sub hl [0, 1, 2, 4, 5, 7] rfl) hr
  · rw [if_pos c_39] at hr
    refine lv_iconst (v := 0) M.1 M.2.1 dL_crashes_180 (by decide) ?_
    refine lv_goto (tgt := 208) M.1 M.2.1 dL_crashes_181 (by decide) ?_
    exact w_L_crashes_208 M K a4  x4 x5 x8 0 (x5 + 3) _ _ _ _  hB (lv_sub hl [0, 1, 2, 4, 5, 7] rfl) hr
def f_L_crashes_126 (a4 : Int32)  (x4 : Int32) (x5 : Int32) (x6 : Int32) (s0 : Int32) (σ : Sg) : Option (Int32 × Sg) :=
if s0 = 5 then
some (1, σ)
else
if x5 + 0 < 0 ∨ 30 ≤ (x5 + 0).toNatClampNeg then none else
wb (st σ 151 ((x5 + 0).toNatClampNeg) 1) fun σ_30 =>
if s0 = 1 then
f_L_crashes_159 a4  x4 x5 x6 s0 1 (x5 + 1) σ_30
else
f_L_crashes_159 a4  x4 x5 x6 s0 0 (x5 + 1) σ_30
set_option maxHeartbeats 4000000 in
set_option maxRecDepth 100000 in
theorem w_L_crashes_126 {p : Program} {l : Launch} {e : Env} {s : State} {m : MethodId} {args : Array Value} {below : List Frame} {meth : Method} {c : Code} {Γ : GG} {res : Int32 × Sg} (M : MX RL cL_crashes 9 (some .boolean) p s m args meth c) (K : KK Γ s s.heap) (a4 : Int32) (x4 : Int32) (x5 : Int32) (x6 : Int32) (s0 : Int32) (σ : Sg) (H : Heap) (locs : List Loc) (ls : Array Slot)  (hB : Bd Γ σ s H locs) (hl : lv_has ls 9 [(0, .ref (Γ.1 0)), (1, .ref (Γ.1 150)), (2, .ref (Γ.1 151)), (3, .ref (Γ.1 152)), (4, .int x4), (5, .int x5), (6, .int x6)]) (hr : f_L_crashes_126 a4  x4 x5 x6 s0 σ = some res) : WI Γ rm_L_crashes p l e s m args below meth c H locs res (F0 m 126 ls [.int s0]) := by
  unfold f_L_crashes_126 at hr
  refine lv_istore (lv' := [(8, .int s0), (0, .ref (Γ.1 0)), (1, .ref (Γ.1 150)), (2, .ref (Γ.1 151)), (3, .ref (Γ.1 152)), (4, .int x4), (5, .int x5), (6, .int x6)]) M.1 M.2.1 dL_crashes_126 hl (by decide) rfl (fun ls hl => ?_)
  refine lv_iload M.1 M.2.1 dL_crashes_128 (lv_at hl 0 rfl) ?_
  refine lv_iconst (v := 5) M.1 M.2.1 dL_crashes_130 (by decide) ?_
  refine lv_icmp_ne (tgt := 136) M.1 M.2.1 dL_crashes_131 (by decide) (fun c_28 => ?_) (fun c_28 => ?_)
  · rw [if_neg c_28] at hr
    refine lv_aload_n M.1 M.2.1 dL_crashes_136 rfl (lv_at hl 3 rfl) ?_
    refine lv_iload M.1 M.2.1 dL_crashes_137 (lv_at hl 6 rfl) ?_
    refine lv_iconst (v := 0) M.1 M.2.1 dL_crashes_139 (by decide) ?_
    refine lv_iadd M.1 M.2.1 dL_crashes_140 ?_
    refine lv_iconst (v := 1) M.1 M.2.1 dL_crashes_141 (by decide) ?_
    obtain ⟨g_29, hr⟩ := gd hr
    obtain ⟨σ_30, e_31, hr⟩ := wbd hr
    refine x_iast M K hB isA_151 g_29 dL_crashes_142 (fun H locs hB => ?_)
    rw [← e_31] at hB
    refine lv_aload_n M.1 M.2.1 dL_crashes_143 rfl (lv_at hl 3 rfl) ?_
    refine lv_iload M.1 M.2.1 dL_crashes_144 (lv_at hl 6 rfl) ?_
    refine lv_iconst (v := 1) M.1 M.2.1 dL_crashes_146 (by decide) ?_
    refine lv_iadd M.1 M.2.1 dL_crashes_147 ?_
    refine lv_iload M.1 M.2.1 dL_crashes_148 (lv_at hl 0 rfl) ?_
    refine lv_iconst (v := 1) M.1 M.2.1 dL_crashes_150 (by decide) ?_
    refine lv_icmp_ne (tgt := 158) M.1 M.2.1 dL_crashes_151 (by decide) (fun c_32 => ?_) (fun c_32 => ?_)
    · rw [if_neg c_32] at hr
      refine lv_iconst (v := 0) M.1 M.2.1 dL_crashes_158 (by decide) ?_
      exact w_L_crashes_159 M K a4  x4 x5 x6 s0 0 (x5 + 1) _ _ _ _  hB (lv_sub hl [1, 2, 3, 4, 5, 6, 7, 0] rfl) hr
    · rw [if_pos c_32] at hr
      refine lv_iconst (v := 1) M.1 M.2.1 dL_crashes_154 (by decide) ?_
      refine lv_goto (tgt := 159) M.1 M.2.1 dL_crashes_155 (by decide) ?_
      exact w_L_crashes_159 M K a4  x4 x5 x6 s0 1 (x5 + 1) _ _ _ _  hB (lv_sub hl [1, 2, 3, 4, 5, 6, 7, 0] rfl) hr
  · rw [if_pos c_28] at hr
    refine lv_iconst (v := 1) M.1 M.2.1 dL_crashes_134 (by decide) ?_
    exact x_zret M hB (nar_z (by decide)) (Option.some.inj hr) dL_crashes_135
def f_L_crashes_69 (a4 : Int32)  (x4 : Int32) (x5 : Int32) (x6 : Int32) (σ : Sg) : Option (Int32 × Sg) :=
cb (f_X4_task_0 x4 0 σ) fun v_14 σ_15 =>
if x5 + 0 < 0 ∨ 30 ≤ (x5 + 0).toNatClampNeg then none else
if σ_15 151 ((x5 + 0).toNatClampNeg) = 0 then
if v_14 = 0 then none else
cb (f_X4_task_0 x4 2 σ_15) fun v_20 σ_21 =>
if v_14 = 0 then none else
if (σ_15 150 4) - (σ_15 150 4) / v_14 * v_14 = v_20 - v_20 / v_14 * v_14 then
if x6 + 1 < 0 ∨ 18 ≤ (x6 + 1).toNatClampNeg then none else
if σ_21 150 4 < σ_21 152 ((x6 + 1).toNatClampNeg) then
f_L_crashes_126 a4  x4 x5 x6 0 σ_21
else
if x6 < 0 ∨ 18 ≤ x6.toNatClampNeg then none else
f_L_crashes_126 a4  x4 x5 x6 (σ_21 152 (x6.toNatClampNeg)) σ_21
else
f_L_crashes_239 a4  x4 x5 σ_21
else
f_L_crashes_239 a4  x4 x5 σ_15
set_option maxHeartbeats 4000000 in
set_option maxRecDepth 100000 in
theorem w_L_crashes_69 {p : Program} {l : Launch} {e : Env} {s : State} {m : MethodId} {args : Array Value} {below : List Frame} {meth : Method} {c : Code} {Γ : GG} {res : Int32 × Sg} (M : MX RL cL_crashes 9 (some .boolean) p s m args meth c) (K : KK Γ s s.heap) (a4 : Int32) (x4 : Int32) (x5 : Int32) (x6 : Int32) (σ : Sg) (H : Heap) (locs : List Loc) (ls : Array Slot)  (hB : Bd Γ σ s H locs) (hl : lv_has ls 9 [(0, .ref (Γ.1 0)), (1, .ref (Γ.1 150)), (2, .ref (Γ.1 151)), (3, .ref (Γ.1 152)), (4, .int x4), (5, .int x5), (6, .int x6)]) (hr : f_L_crashes_69 a4  x4 x5 x6 σ = some res) : WI Γ rm_L_crashes p l e s m args below meth c H locs res (F0 m 69 ls []) := by
  unfold f_L_crashes_69 at hr
  refine lv_aload_n M.1 M.2.1 dL_crashes_69 rfl (lv_at hl 0 rfl) ?_
  refine lv_iload M.1 M.2.1 dL_crashes_70 (lv_at hl 4 rfl) ?_
  refine lv_iconst (v := 0) M.1 M.2.1 dL_crashes_72 (by decide) ?_
  obtain ⟨v_14, σ_15, h_16, hr⟩ := cbd hr
  refine x_callI (x_runV M K hB hl.1 [.int x4, .int 0] (rest := []) rfl (c_X4_task l Γ x4 0  σ (v_14, σ_15) h_16) cy_X4_task (x_recv K hB isK_0.2 (ent_4 isK_0.1) rfl) wd_105 ⟨rfl, rfl, Nat.le_of_ble_eq_true rfl, Nat.le_of_ble_eq_true rfl⟩ (Nat.le_of_ble_eq_true rfl) ⟨Nat.zero_le _, Nat.zero_le _⟩ dL_crashes_73) hB (fun H locs hB => ?_)
  replace hB : Bd Γ σ_15 s H locs := hB
  refine lv_istore (lv' := [(7, .int v_14), (0, .ref (Γ.1 0)), (1, .ref (Γ.1 150)), (2, .ref (Γ.1 151)), (3, .ref (Γ.1 152)), (4, .int x4), (5, .int x5), (6, .int x6)]) M.1 M.2.1 dL_crashes_76 hl (by decide) rfl (fun ls hl => ?_)
  refine lv_aload_n M.1 M.2.1 dL_crashes_78 rfl (lv_at hl 3 rfl) ?_
  refine lv_iload M.1 M.2.1 dL_crashes_79 (lv_at hl 6 rfl) ?_
  refine lv_iconst (v := 0) M.1 M.2.1 dL_crashes_81 (by decide) ?_
  refine lv_iadd M.1 M.2.1 dL_crashes_82 ?_
  obtain ⟨g_17, hr⟩ := gd hr
  refine x_iald M K hB isA_151 g_17 dL_crashes_83 ?_
  refine lv_if_ne (tgt := 239) M.1 M.2.1 dL_crashes_84 (by decide) (fun c_18 => ?_) (fun c_18 => ?_)
  · rw [if_neg c_18] at hr
    exact w_L_crashes_239 M K a4  x4 x5 _ _ _ _  hB (lv_sub hl [1, 2, 3, 5, 6] rfl) hr
  · rw [if_pos c_18] at hr
    refine lv_aload_n M.1 M.2.1 dL_crashes_87 rfl (lv_at hl 2 rfl) ?_
    refine lv_iconst (v := 4) M.1 M.2.1 dL_crashes_88 (by decide) ?_
    refine x_ialdL M K hB isA_150 (k := 4) (by decide) (by decide) dL_crashes_89 ?_
    refine lv_iload M.1 M.2.1 dL_crashes_90 (lv_at hl 0 rfl) ?_
    obtain ⟨g_19, hr⟩ := gd hr
    refine lv_irem M.1 M.2.1 dL_crashes_92 g_19 ?_
    refine lv_aload_n M.1 M.2.1 dL_crashes_93 rfl (lv_at hl 1 rfl) ?_
    refine lv_iload M.1 M.2.1 dL_crashes_94 (lv_at hl 5 rfl) ?_
    refine lv_iconst (v := 2) M.1 M.2.1 dL_crashes_96 (by decide) ?_
    obtain ⟨v_20, σ_21, h_22, hr⟩ := cbd hr
    refine x_callI (x_runV M K hB hl.1 [.int x4, .int 2] (rest := [.int ((σ_15 150 4) - (σ_15 150 4) / v_14 * v_14)]) rfl (c_X4_task l Γ x4 2  σ_15 (v_20, σ_21) h_22) cy_X4_task (x_recv K hB isK_0.2 (ent_4 isK_0.1) rfl) wd_105 ⟨rfl, rfl, Nat.le_of_ble_eq_true rfl, Nat.le_of_ble_eq_true rfl⟩ (Nat.le_of_ble_eq_true rfl) ⟨Nat.zero_le _, Nat.zero_le _⟩ dL_crashes_97) hB (fun H locs hB => ?_)
    replace hB : Bd Γ σ_21 s H locs := hB
    refine lv_iload M.1 M.2.1 dL_crashes_100 (lv_at hl 0 rfl) ?_
    obtain ⟨g_23, hr⟩ := gd hr
    refine lv_irem M.1 M.2.1 dL_crashes_102 g_23 ?_
    refine lv_icmp_ne (tgt := 239) M.1 M.2.1 dL_crashes_103 (by decide) (fun c_24 => ?_) (fun c_24 => ?_)
    · rw [if_neg c_24] at hr
      exact w_L_crashes_239 M K a4  x4 x5 _ _ _ _  hB (lv_sub hl [1, 2, 3, 5, 6] rfl) hr
    · rw [if_pos c_24] at hr
      refine lv_aload_n M.1 M.2.1 dL_crashes_106 rfl (lv_at hl 2 rfl) ?_
      refine lv_iconst (v := 4) M.1 M.2.1 dL_crashes_107 (by decide) ?_
      refine x_ialdL M K hB isA_150 (k := 4) (by decide) (by decide) dL_crashes_108 ?_
      refine lv_aload_n M.1 M.2.1 dL_crashes_109 rfl (lv_at hl 4 rfl) ?_
      refine lv_iload M.1 M.2.1 dL_crashes_110 (lv_at hl 7 rfl) ?_
      refine lv_iconst (v := 1) M.1 M.2.1 dL_crashes_112 (by decide) ?_
      refine lv_iadd M.1 M.2.1 dL_crashes_113 ?_
      obtain ⟨g_25, hr⟩ := gd hr
      refine x_iald M K hB isA_152 g_25 dL_crashes_114 ?_
      refine lv_icmp_lt (tgt := 125) M.1 M.2.1 dL_crashes_115 (by decide) (fun c_26 => ?_) (fun c_26 => ?_)
      · rw [if_pos c_26] at hr
        refine lv_iconst (v := 0) M.1 M.2.1 dL_crashes_125 (by decide) ?_
        exact w_L_crashes_126 M K a4  x4 x5 x6 0 _ _ _ _  hB (lv_sub hl [1, 2, 3, 4, 5, 6, 7] rfl) hr
      · rw [if_neg c_26] at hr
        refine lv_aload_n M.1 M.2.1 dL_crashes_118 rfl (lv_at hl 4 rfl) ?_
        refine lv_iload M.1 M.2.1 dL_crashes_119 (lv_at hl 7 rfl) ?_
        obtain ⟨g_27, hr⟩ := gd hr
        refine x_iald M K hB isA_152 g_27 dL_crashes_121 ?_
        refine lv_goto (tgt := 126) M.1 M.2.1 dL_crashes_122 (by decide) ?_
        exact w_L_crashes_126 M K a4  x4 x5 x6 (σ_21 152 (x6.toNatClampNeg)) _ _ _ _  hB (lv_sub hl [1, 2, 3, 4, 5, 6, 7] rfl) hr
def f_L_crashes_68 (a4 : Int32)  (x4 : Int32) (x5 : Int32) (x6 : Int32) (s0 : Int32) (s1 : Int32) (σ : Sg) : Option (Int32 × Sg) :=
if s1 < 0 ∨ 30 ≤ s1.toNatClampNeg then none else
wb (st σ 151 (s1.toNatClampNeg) s0) fun σ_12 =>
f_L_crashes_69 a4  x4 x5 x6 σ_12
set_option maxHeartbeats 4000000 in
set_option maxRecDepth 100000 in
theorem w_L_crashes_68 {p : Program} {l : Launch} {e : Env} {s : State} {m : MethodId} {args : Array Value} {below : List Frame} {meth : Method} {c : Code} {Γ : GG} {res : Int32 × Sg} (M : MX RL cL_crashes 9 (some .boolean) p s m args meth c) (K : KK Γ s s.heap) (a4 : Int32) (x4 : Int32) (x5 : Int32) (x6 : Int32) (s0 : Int32) (s1 : Int32) (σ : Sg) (H : Heap) (locs : List Loc) (ls : Array Slot)  (hB : Bd Γ σ s H locs) (hl : lv_has ls 9 [(0, .ref (Γ.1 0)), (1, .ref (Γ.1 150)), (2, .ref (Γ.1 151)), (3, .ref (Γ.1 152)), (4, .int x4), (5, .int x5), (6, .int x6)]) (hr : f_L_crashes_68 a4  x4 x5 x6 s0 s1 σ = some res) : WI Γ rm_L_crashes p l e s m args below meth c H locs res (F0 m 68 ls [.int s0, .int s1, .ref (Γ.1 151)]) := by
  unfold f_L_crashes_68 at hr
  obtain ⟨g_11, hr⟩ := gd hr
  obtain ⟨σ_12, e_13, hr⟩ := wbd hr
  refine x_iast M K hB isA_151 g_11 dL_crashes_68 (fun H locs hB => ?_)
  rw [← e_13] at hB
  exact w_L_crashes_69 M K a4  x4 x5 x6 _ _ _ _  hB (lv_sub hl [0, 1, 2, 3, 4, 5, 6] rfl) hr
def f_L_crashes_0 (a4 : Int32)   (σ : Sg) : Option (Int32 × Sg) :=
if (10 * a4) + 0 < 0 ∨ 30 ≤ ((10 * a4) + 0).toNatClampNeg then none else
if σ 151 (((10 * a4) + 0).toNatClampNeg) = 1 then
if (10 * a4) + 1 < 0 ∨ 30 ≤ ((10 * a4) + 1).toNatClampNeg then none else
if σ 151 (((10 * a4) + 1).toNatClampNeg) = 0 then
if (10 * a4) + 3 < 0 ∨ 30 ≤ ((10 * a4) + 3).toNatClampNeg then none else
if (10 * a4) + 3 < 0 ∨ 30 ≤ ((10 * a4) + 3).toNatClampNeg then none else
wb (st σ 151 (((10 * a4) + 3).toNatClampNeg) ((σ 151 (((10 * a4) + 3).toNatClampNeg)) - 1)) fun σ_7 =>
if (10 * a4) + 3 < 0 ∨ 30 ≤ ((10 * a4) + 3).toNatClampNeg then none else
if σ_7 151 (((10 * a4) + 3).toNatClampNeg) ≤ 0 then
f_L_crashes_68 a4  a4 (10 * a4) ((9 * (σ 150 1)) + (3 * a4)) 0 ((10 * a4) + 0) σ_7
else
f_L_crashes_68 a4  a4 (10 * a4) ((9 * (σ 150 1)) + (3 * a4)) 1 ((10 * a4) + 0) σ_7
else
f_L_crashes_69 a4  a4 (10 * a4) ((9 * (σ 150 1)) + (3 * a4)) σ
else
f_L_crashes_69 a4  a4 (10 * a4) ((9 * (σ 150 1)) + (3 * a4)) σ
set_option maxHeartbeats 4000000 in
set_option maxRecDepth 100000 in
theorem w_L_crashes_0 {p : Program} {l : Launch} {e : Env} {s : State} {m : MethodId} {args : Array Value} {below : List Frame} {meth : Method} {c : Code} {Γ : GG} {res : Int32 × Sg} (M : MX RL cL_crashes 9 (some .boolean) p s m args meth c) (K : KK Γ s s.heap) (a4 : Int32)  (σ : Sg) (H : Heap) (locs : List Loc) (ls : Array Slot)  (hB : Bd Γ σ s H locs) (hl : lv_has ls 9 [(0, .ref (Γ.1 0)), (1, .ref (Γ.1 150)), (2, .ref (Γ.1 151)), (3, .ref (Γ.1 152)), (4, .int a4)]) (hr : f_L_crashes_0 a4   σ = some res) : WI Γ rm_L_crashes p l e s m args below meth c H locs res (F0 m 0 ls []) := by
  unfold f_L_crashes_0 at hr
  refine lv_bipush (v := 10) M.1 M.2.1 dL_crashes_0 (by decide) ?_
  refine lv_iload M.1 M.2.1 dL_crashes_2 (lv_at hl 4 rfl) ?_
  refine lv_imul M.1 M.2.1 dL_crashes_4 ?_
  refine lv_istore (lv' := [(5, .int (10 * a4)), (0, .ref (Γ.1 0)), (1, .ref (Γ.1 150)), (2, .ref (Γ.1 151)), (3, .ref (Γ.1 152)), (4, .int a4)]) M.1 M.2.1 dL_crashes_5 hl (by decide) rfl (fun ls hl => ?_)
  refine lv_bipush (v := 9) M.1 M.2.1 dL_crashes_7 (by decide) ?_
  refine lv_aload_n M.1 M.2.1 dL_crashes_9 rfl (lv_at hl 2 rfl) ?_
  refine lv_iconst (v := 1) M.1 M.2.1 dL_crashes_10 (by decide) ?_
  refine x_ialdL M K hB isA_150 (k := 1) (by decide) (by decide) dL_crashes_11 ?_
  refine lv_imul M.1 M.2.1 dL_crashes_12 ?_
  refine lv_iconst (v := 3) M.1 M.2.1 dL_crashes_13 (by decide) ?_
  refine lv_iload M.1 M.2.1 dL_crashes_14 (lv_at hl 5 rfl) ?_
  refine lv_imul M.1 M.2.1 dL_crashes_16 ?_
  refine lv_iadd M.1 M.2.1 dL_crashes_17 ?_
  refine lv_istore (lv' := [(6, .int ((9 * (σ 150 1)) + (3 * a4))), (5, .int (10 * a4)), (0, .ref (Γ.1 0)), (1, .ref (Γ.1 150)), (2, .ref (Γ.1 151)), (3, .ref (Γ.1 152)), (4, .int a4)]) M.1 M.2.1 dL_crashes_18 hl (by decide) rfl (fun ls hl => ?_)
  refine lv_aload_n M.1 M.2.1 dL_crashes_20 rfl (lv_at hl 4 rfl) ?_
  refine lv_iload M.1 M.2.1 dL_crashes_21 (lv_at hl 1 rfl) ?_
  refine lv_iconst (v := 0) M.1 M.2.1 dL_crashes_23 (by decide) ?_
  refine lv_iadd M.1 M.2.1 dL_crashes_24 ?_
  obtain ⟨g_1, hr⟩ := gd hr
  refine x_iald M K hB isA_151 g_1 dL_crashes_25 ?_
  refine lv_iconst (v := 1) M.1 M.2.1 dL_crashes_26 (by decide) ?_
  refine lv_icmp_ne (tgt := 69) M.1 M.2.1 dL_crashes_27 (by decide) (fun c_2 => ?_) (fun c_2 => ?_)
  · rw [if_neg c_2] at hr
    exact w_L_crashes_69 M K a4  a4 (10 * a4) ((9 * (σ 150 1)) + (3 * a4)) _ _ _ _  hB (lv_sub hl [2, 3, 4, 5, 6, 1, 0] rfl) hr
  · rw [if_pos c_2] at hr
    refine lv_aload_n M.1 M.2.1 dL_crashes_30 rfl (lv_at hl 4 rfl) ?_
    refine lv_iload M.1 M.2.1 dL_crashes_31 (lv_at hl 1 rfl) ?_
    refine lv_iconst (v := 1) M.1 M.2.1 dL_crashes_33 (by decide) ?_
    refine lv_iadd M.1 M.2.1 dL_crashes_34 ?_
    obtain ⟨g_3, hr⟩ := gd hr
    refine x_iald M K hB isA_151 g_3 dL_crashes_35 ?_
    refine lv_if_ne (tgt := 69) M.1 M.2.1 dL_crashes_36 (by decide) (fun c_4 => ?_) (fun c_4 => ?_)
    · rw [if_neg c_4] at hr
      exact w_L_crashes_69 M K a4  a4 (10 * a4) ((9 * (σ 150 1)) + (3 * a4)) _ _ _ _  hB (lv_sub hl [2, 3, 4, 5, 6, 1, 0] rfl) hr
    · rw [if_pos c_4] at hr
      refine lv_aload_n M.1 M.2.1 dL_crashes_39 rfl (lv_at hl 4 rfl) ?_
      refine lv_iload M.1 M.2.1 dL_crashes_40 (lv_at hl 1 rfl) ?_
      refine lv_iconst (v := 3) M.1 M.2.1 dL_crashes_42 (by decide) ?_
      refine lv_iadd M.1 M.2.1 dL_crashes_43 ?_
      refine lv_dup2_11 M.1 M.2.1 dL_crashes_44 rfl rfl ?_
      obtain ⟨g_5, hr⟩ := gd hr
      refine x_iald M K hB isA_151 g_5 dL_crashes_45 ?_
      refine lv_iconst (v := 1) M.1 M.2.1 dL_crashes_46 (by decide) ?_
      refine lv_isub M.1 M.2.1 dL_crashes_47 ?_
      obtain ⟨g_6, hr⟩ := gd hr
      obtain ⟨σ_7, e_8, hr⟩ := wbd hr
      refine x_iast M K hB isA_151 g_6 dL_crashes_48 (fun H locs hB => ?_)
      rw [← e_8] at hB
      refine lv_aload_n M.1 M.2.1 dL_crashes_49 rfl (lv_at hl 4 rfl) ?_
      refine lv_iload M.1 M.2.1 dL_crashes_50 (lv_at hl 1 rfl) ?_
      refine lv_iconst (v := 0) M.1 M.2.1 dL_crashes_52 (by decide) ?_
      refine lv_iadd M.1 M.2.1 dL_crashes_53 ?_
      refine lv_aload_n M.1 M.2.1 dL_crashes_54 rfl (lv_at hl 4 rfl) ?_
      refine lv_iload M.1 M.2.1 dL_crashes_55 (lv_at hl 1 rfl) ?_
      refine lv_iconst (v := 3) M.1 M.2.1 dL_crashes_57 (by decide) ?_
      refine lv_iadd M.1 M.2.1 dL_crashes_58 ?_
      obtain ⟨g_9, hr⟩ := gd hr
      refine x_iald M K hB isA_151 g_9 dL_crashes_59 ?_
      refine lv_if_le (tgt := 67) M.1 M.2.1 dL_crashes_60 (by decide) (fun c_10 => ?_) (fun c_10 => ?_)
      · rw [if_pos c_10] at hr
        refine lv_iconst (v := 0) M.1 M.2.1 dL_crashes_67 (by decide) ?_
        exact w_L_crashes_68 M K a4  a4 (10 * a4) ((9 * (σ 150 1)) + (3 * a4)) 0 ((10 * a4) + 0) _ _ _ _  hB (lv_sub hl [2, 3, 4, 5, 6, 1, 0] rfl) hr
      · rw [if_neg c_10] at hr
        refine lv_iconst (v := 1) M.1 M.2.1 dL_crashes_63 (by decide) ?_
        refine lv_goto (tgt := 68) M.1 M.2.1 dL_crashes_64 (by decide) ?_
        exact w_L_crashes_68 M K a4  a4 (10 * a4) ((9 * (σ 150 1)) + (3 * a4)) 1 ((10 * a4) + 0) _ _ _ _  hB (lv_sub hl [2, 3, 4, 5, 6, 1, 0] rfl) hr
theorem c_L_crashes (l : Launch) (Γ : GG) (a4 : Int32)  (σ : Sg) (res : Int32 × Sg) (hr : f_L_crashes_0 a4 σ = some res) : Met l yL_crashes (Cond.code yL_crashes cL_crashes 9 (some .boolean) :: gtb) rm_L_crashes (va_Pc [.ref (Γ.1 0), .ref (Γ.1 150), .ref (Γ.1 151), .ref (Γ.1 152), .int a4] (GI Γ σ)) (QI Γ res) 0 0 (AD Γ) :=
  x_metI (by decide) [.ref (Γ.1 0), .ref (Γ.1 150), .ref (Γ.1 151), .ref (Γ.1 152), .int a4] (Nat.le_of_ble_eq_true rfl) (fun p e s m args below meth c M K ls hl hB => w_L_crashes_0 M K a4 σ _ _ ls hB hl hr)
abbrev rm_L_anew : Room := { frames := 0, cells := 0, slots := 0, locals := 0 }
def f_L_anew_44  (rec_20 : Int32 → Sg → Option (Int32 × Sg)) (x2 : Int32) (s0 : Int32) (s1 : Int32) (σ : Sg) : Option (Int32 × Sg) :=
if s1 < 0 ∨ 30 ≤ s1.toNatClampNeg then none else
wb (st σ 151 (s1.toNatClampNeg) s0) fun σ_9 =>
rec_20 (x2 + 1) σ_9
set_option maxHeartbeats 4000000 in
set_option maxRecDepth 100000 in
theorem w_L_anew_44 {p : Program} {l : Launch} {e : Env} {s : State} {m : MethodId} {args : Array Value} {below : List Frame} {meth : Method} {c : Code} {Γ : GG} {res : Int32 × Sg} (M : MX RL cL_anew 3 none p s m args meth c) (K : KK Γ s s.heap)  (rec_20 : Int32 → Sg → Option (Int32 × Sg)) (ih_20 : ∀ (x2 : Int32) (σ : Sg) (H : Heap) (locs : List Loc) (ls : Array Slot) , Bd Γ σ s H locs → lv_has ls 3 [(1, .ref (Γ.1 151)), (2, .int x2)] → rec_20 x2 σ = some res → WV Γ rm_L_anew p l e s m args below meth c H locs res (F0 m 20 ls [])) (x2 : Int32) (s0 : Int32) (s1 : Int32) (σ : Sg) (H : Heap) (locs : List Loc) (ls : Array Slot)  (hB : Bd Γ σ s H locs) (hl : lv_has ls 3 [(1, .ref (Γ.1 151)), (2, .int x2)]) (hr : f_L_anew_44  rec_20 x2 s0 s1 σ = some res) : WV Γ rm_L_anew p l e s m args below meth c H locs res (F0 m 44 ls [.int s0, .int s1, .ref (Γ.1 151)]) := by
  unfold f_L_anew_44 at hr
  obtain ⟨g_8, hr⟩ := gd hr
  obtain ⟨σ_9, e_10, hr⟩ := wbd hr
  refine x_iast M K hB isA_151 g_8 dL_anew_44 (fun H locs hB => ?_)
  rw [← e_10] at hB
  refine lv_iinc (v := x2 + 1) (lv' := [(2, .int (x2 + 1)), (1, .ref (Γ.1 151))]) M.1 M.2.1 dL_anew_45 hl (k := 1) rfl rfl (by decide) rfl (fun ls hl => ?_)
  refine lv_goto (tgt := 20) M.1 M.2.1 dL_anew_48 (by decide) ?_
  exact ih_20 (x2 + 1) _ _ _ _  hB (lv_sub hl [1, 0] rfl) hr
def f_L_anew_20   : Nat → Int32 → Sg → Option (Int32 × Sg)
  | 0, _, _ => none
  | f + 1, x2, σ => if 30 ≤ x2 then
some (0, σ)
else
if 8 ≤ x2 - x2 / 10 * 10 then
if x2 < 0 ∨ 30 ≤ x2.toNatClampNeg then none else
f_L_anew_44  (f_L_anew_20   f) x2 (σ 151 (x2.toNatClampNeg)) x2 σ
else
f_L_anew_44  (f_L_anew_20   f) x2 0 x2 σ
set_option maxHeartbeats 4000000 in
set_option maxRecDepth 100000 in
theorem w_L_anew_20 {p : Program} {l : Launch} {e : Env} {s : State} {m : MethodId} {args : Array Value} {below : List Frame} {meth : Method} {c : Code} {Γ : GG} {res : Int32 × Sg} (M : MX RL cL_anew 3 none p s m args meth c) (K : KK Γ s s.heap)  : ∀ (f : Nat) (x2 : Int32) (σ : Sg) (H : Heap) (locs : List Loc) (ls : Array Slot)  (hB : Bd Γ σ s H locs) (hl : lv_has ls 3 [(1, .ref (Γ.1 151)), (2, .int x2)]) (hr : f_L_anew_20   f x2 σ = some res), WV Γ rm_L_anew p l e s m args below meth c H locs res (F0 m 20 ls []) := by
  intro f
  induction f with
  | zero => intros; rename_i hr; exact absurd hr (by rw [f_L_anew_20]; exact fun h => by cases h)
  | succ f ih_20 =>
    intro x2 σ H locs ls  hB hl hr
    rw [f_L_anew_20] at hr
    refine lv_iload_n M.1 M.2.1 dL_anew_20 rfl (lv_at hl 1 rfl) ?_
    refine lv_bipush (v := 30) M.1 M.2.1 dL_anew_21 (by decide) ?_
    refine lv_icmp_ge (tgt := 51) M.1 M.2.1 dL_anew_23 (by decide) (fun c_5 => ?_) (fun c_5 => ?_)
    · rw [if_pos c_5] at hr
      exact x_vret M hB (Option.some.inj hr) dL_anew_51
    · rw [if_neg c_5] at hr
      refine lv_aload_n M.1 M.2.1 dL_anew_26 rfl (lv_at hl 0 rfl) ?_
      refine lv_iload_n M.1 M.2.1 dL_anew_27 rfl (lv_at hl 1 rfl) ?_
      refine lv_iload_n M.1 M.2.1 dL_anew_28 rfl (lv_at hl 1 rfl) ?_
      refine lv_bipush (v := 10) M.1 M.2.1 dL_anew_29 (by decide) ?_
      refine lv_irem M.1 M.2.1 dL_anew_31 (by decide) ?_
      refine lv_bipush (v := 8) M.1 M.2.1 dL_anew_32 (by decide) ?_
      refine lv_icmp_ge (tgt := 41) M.1 M.2.1 dL_anew_34 (by decide) (fun c_6 => ?_) (fun c_6 => ?_)
      · rw [if_pos c_6] at hr
        refine lv_aload_n M.1 M.2.1 dL_anew_41 rfl (lv_at hl 0 rfl) ?_
        refine lv_iload_n M.1 M.2.1 dL_anew_42 rfl (lv_at hl 1 rfl) ?_
        obtain ⟨g_7, hr⟩ := gd hr
        refine x_iald M K hB isA_151 g_7 dL_anew_43 ?_
        exact w_L_anew_44 M K  _ ih_20 x2 (σ 151 (x2.toNatClampNeg)) x2 _ _ _ _  hB (lv_sub hl [0, 1] rfl) hr
      · rw [if_neg c_6] at hr
        refine lv_iconst (v := 0) M.1 M.2.1 dL_anew_37 (by decide) ?_
        refine lv_goto (tgt := 44) M.1 M.2.1 dL_anew_38 (by decide) ?_
        exact w_L_anew_44 M K  _ ih_20 x2 0 x2 _ _ _ _  hB (lv_sub hl [0, 1] rfl) hr
def f_L_anew_2   : Nat → Int32 → Sg → Option (Int32 × Sg)
  | 0, _, _ => none
  | f + 1, x2, σ => if 7 < x2 then
f_L_anew_20   FU 0 σ
else
if x2 < 0 ∨ 14 ≤ x2.toNatClampNeg then none else
wb (st σ 150 (x2.toNatClampNeg) 0) fun σ_3 =>
f_L_anew_2   f (x2 + 1) σ_3
set_option maxHeartbeats 4000000 in
set_option maxRecDepth 100000 in
theorem w_L_anew_2 {p : Program} {l : Launch} {e : Env} {s : State} {m : MethodId} {args : Array Value} {below : List Frame} {meth : Method} {c : Code} {Γ : GG} {res : Int32 × Sg} (M : MX RL cL_anew 3 none p s m args meth c) (K : KK Γ s s.heap)  : ∀ (f : Nat) (x2 : Int32) (σ : Sg) (H : Heap) (locs : List Loc) (ls : Array Slot)  (hB : Bd Γ σ s H locs) (hl : lv_has ls 3 [(0, .ref (Γ.1 150)), (1, .ref (Γ.1 151)), (2, .int x2)]) (hr : f_L_anew_2   f x2 σ = some res), WV Γ rm_L_anew p l e s m args below meth c H locs res (F0 m 2 ls []) := by
  intro f
  induction f with
  | zero => intros; rename_i hr; exact absurd hr (by rw [f_L_anew_2]; exact fun h => by cases h)
  | succ f ih_2 =>
    intro x2 σ H locs ls  hB hl hr
    rw [f_L_anew_2] at hr
    refine lv_iload_n M.1 M.2.1 dL_anew_2 rfl (lv_at hl 2 rfl) ?_
    refine lv_bipush (v := 7) M.1 M.2.1 dL_anew_3 (by decide) ?_
    refine lv_icmp_gt (tgt := 18) M.1 M.2.1 dL_anew_5 (by decide) (fun c_1 => ?_) (fun c_1 => ?_)
    · rw [if_pos c_1] at hr
      refine lv_iconst (v := 0) M.1 M.2.1 dL_anew_18 (by decide) ?_
      refine lv_istore_n (lv' := [(2, .int 0), (0, .ref (Γ.1 150)), (1, .ref (Γ.1 151))]) M.1 M.2.1 dL_anew_19 rfl hl (by decide) rfl (fun ls hl => ?_)
      exact w_L_anew_20 M K   FU 0 _ _ _ _  hB (lv_sub hl [2, 0] rfl) hr
    · rw [if_neg c_1] at hr
      refine lv_aload_n M.1 M.2.1 dL_anew_8 rfl (lv_at hl 0 rfl) ?_
      refine lv_iload_n M.1 M.2.1 dL_anew_9 rfl (lv_at hl 2 rfl) ?_
      refine lv_iconst (v := 0) M.1 M.2.1 dL_anew_10 (by decide) ?_
      obtain ⟨g_2, hr⟩ := gd hr
      obtain ⟨σ_3, e_4, hr⟩ := wbd hr
      refine x_iast M K hB isA_150 g_2 dL_anew_11 (fun H locs hB => ?_)
      rw [← e_4] at hB
      refine lv_iinc (v := x2 + 1) (lv' := [(2, .int (x2 + 1)), (0, .ref (Γ.1 150)), (1, .ref (Γ.1 151))]) M.1 M.2.1 dL_anew_12 hl (k := 2) rfl rfl (by decide) rfl (fun ls hl => ?_)
      refine lv_goto (tgt := 2) M.1 M.2.1 dL_anew_15 (by decide) ?_
      exact ih_2 (x2 + 1) _ _ _ _  hB (lv_sub hl [1, 2, 0] rfl) hr
def f_L_anew_0    (σ : Sg) : Option (Int32 × Sg) :=
f_L_anew_2   FU 4 σ
set_option maxHeartbeats 4000000 in
set_option maxRecDepth 100000 in
theorem w_L_anew_0 {p : Program} {l : Launch} {e : Env} {s : State} {m : MethodId} {args : Array Value} {below : List Frame} {meth : Method} {c : Code} {Γ : GG} {res : Int32 × Sg} (M : MX RL cL_anew 3 none p s m args meth c) (K : KK Γ s s.heap)   (σ : Sg) (H : Heap) (locs : List Loc) (ls : Array Slot)  (hB : Bd Γ σ s H locs) (hl : lv_has ls 3 [(0, .ref (Γ.1 150)), (1, .ref (Γ.1 151))]) (hr : f_L_anew_0    σ = some res) : WV Γ rm_L_anew p l e s m args below meth c H locs res (F0 m 0 ls []) := by
  unfold f_L_anew_0 at hr
  refine lv_iconst (v := 4) M.1 M.2.1 dL_anew_0 (by decide) ?_
  refine lv_istore_n (lv' := [(2, .int 4), (0, .ref (Γ.1 150)), (1, .ref (Γ.1 151))]) M.1 M.2.1 dL_anew_1 rfl hl (by decide) rfl (fun ls hl => ?_)
  exact w_L_anew_2 M K   FU 4 _ _ _ _  hB (lv_sub hl [1, 2, 0] rfl) hr
theorem c_L_anew (l : Launch) (Γ : GG)   (σ : Sg) (res : Int32 × Sg) (hr : f_L_anew_0  σ = some res) : Met l yL_anew (Cond.code yL_anew cL_anew 3 none :: gtb) rm_L_anew (va_Pc [.ref (Γ.1 150), .ref (Γ.1 151)] (GI Γ σ)) (QV Γ res) 0 0 (AD Γ) :=
  x_metV (by decide) [.ref (Γ.1 150), .ref (Γ.1 151)] (Nat.le_of_ble_eq_true rfl) (fun p e s m args below meth c M K ls hl hB => w_L_anew_0 M K  σ _ _ ls hB hl hr)
abbrev rm_L_reset : Room := { frames := 2, cells := 0, slots := 0, locals := 43 }
def f_L_reset_214 (a3 : Int32) (a4 : Int32) (a5 : Int32)  (s0 : Int32) (s1 : Int32) (σ : Sg) : Option (Int32 × Sg) :=
if s1 < 0 ∨ 14 ≤ s1.toNatClampNeg then none else
wb (st σ 150 (s1.toNatClampNeg) s0) fun σ_48 =>
cb (f_L_anew_0  σ_48) fun v_50 σ_51 =>
some (0, σ_51)
set_option maxHeartbeats 4000000 in
set_option maxRecDepth 100000 in
theorem w_L_reset_214 {p : Program} {l : Launch} {e : Env} {s : State} {m : MethodId} {args : Array Value} {below : List Frame} {meth : Method} {c : Code} {Γ : GG} {res : Int32 × Sg} (M : MX RL cL_reset 9 none p s m args meth c) (K : KK Γ s s.heap) (a3 : Int32) (a4 : Int32) (a5 : Int32) (s0 : Int32) (s1 : Int32) (σ : Sg) (H : Heap) (locs : List Loc) (ls : Array Slot)  (hB : Bd Γ σ s H locs) (hl : lv_has ls 9 [(1, .ref (Γ.1 150)), (2, .ref (Γ.1 151))]) (hr : f_L_reset_214 a3 a4 a5  s0 s1 σ = some res) : WV Γ rm_L_reset p l e s m args below meth c H locs res (F0 m 214 ls [.int s0, .int s1, .ref (Γ.1 150)]) := by
  unfold f_L_reset_214 at hr
  obtain ⟨g_47, hr⟩ := gd hr
  obtain ⟨σ_48, e_49, hr⟩ := wbd hr
  refine x_iast M K hB isA_150 g_47 dL_reset_214 (fun H locs hB => ?_)
  rw [← e_49] at hB
  refine lv_aload_n M.1 M.2.1 dL_reset_215 rfl (lv_at hl 0 rfl) ?_
  refine lv_aload_n M.1 M.2.1 dL_reset_216 rfl (lv_at hl 1 rfl) ?_
  obtain ⟨v_50, σ_51, h_52, hr⟩ := cbd hr
  refine x_callV (x_runS M K hB hl.1 [.ref (Γ.1 150), .ref (Γ.1 151)] (rest := []) rfl (c_L_anew l Γ   σ_48 (v_50, σ_51) h_52) cy_L_anew wd_107 ⟨rfl, rfl, Nat.le_of_ble_eq_true rfl, Nat.le_of_ble_eq_true rfl⟩ (Nat.le_of_ble_eq_true rfl) ⟨Nat.zero_le _, Nat.zero_le _⟩ dL_reset_217) hB (fun H locs hB => ?_)
  replace hB : Bd Γ σ_51 s H locs := hB
  exact x_vret M hB (Option.some.inj hr) dL_reset_220
def f_L_reset_196 (a3 : Int32) (a4 : Int32) (a5 : Int32)  (x8 : Int32) (s0 : Int32) (s1 : Int32) (σ : Sg) : Option (Int32 × Sg) :=
if s1 < 0 ∨ 14 ≤ s1.toNatClampNeg then none else
wb (st σ 150 (s1.toNatClampNeg) s0) fun σ_41 =>
if x8 = 0 then
cb (f_X4_state_0 18 σ_41) fun v_44 σ_45 =>
f_L_reset_214 a3 a4 a5  v_44 3 σ_45
else
f_L_reset_214 a3 a4 a5  0 3 σ_41
set_option maxHeartbeats 4000000 in
set_option maxRecDepth 100000 in
theorem w_L_reset_196 {p : Program} {l : Launch} {e : Env} {s : State} {m : MethodId} {args : Array Value} {below : List Frame} {meth : Method} {c : Code} {Γ : GG} {res : Int32 × Sg} (M : MX RL cL_reset 9 none p s m args meth c) (K : KK Γ s s.heap) (a3 : Int32) (a4 : Int32) (a5 : Int32) (x8 : Int32) (s0 : Int32) (s1 : Int32) (σ : Sg) (H : Heap) (locs : List Loc) (ls : Array Slot)  (hB : Bd Γ σ s H locs) (hl : lv_has ls 9 [(0, .ref (Γ.1 0)), (1, .ref (Γ.1 150)), (2, .ref (Γ.1 151)), (8, .int x8)]) (hr : f_L_reset_196 a3 a4 a5  x8 s0 s1 σ = some res) : WV Γ rm_L_reset p l e s m args below meth c H locs res (F0 m 196 ls [.int s0, .int s1, .ref (Γ.1 150)]) := by
  unfold f_L_reset_196 at hr
  obtain ⟨g_40, hr⟩ := gd hr
  obtain ⟨σ_41, e_42, hr⟩ := wbd hr
  refine x_iast M K hB isA_150 g_40 dL_reset_196 (fun H locs hB => ?_)
  rw [← e_42] at hB
  refine lv_aload_n M.1 M.2.1 dL_reset_197 rfl (lv_at hl 1 rfl) ?_
  refine lv_iconst (v := 3) M.1 M.2.1 dL_reset_198 (by decide) ?_
  refine lv_iload M.1 M.2.1 dL_reset_199 (lv_at hl 3 rfl) ?_
  refine lv_if_eq (tgt := 208) M.1 M.2.1 dL_reset_201 (by decide) (fun c_43 => ?_) (fun c_43 => ?_)
  · rw [if_pos c_43] at hr
    refine lv_aload_n M.1 M.2.1 dL_reset_208 rfl (lv_at hl 0 rfl) ?_
    refine lv_bipush (v := 18) M.1 M.2.1 dL_reset_209 (by decide) ?_
    obtain ⟨v_44, σ_45, h_46, hr⟩ := cbd hr
    refine x_callI (x_runV M K hB hl.1 [.int 18] (rest := [.int 3, .ref (Γ.1 150)]) rfl (c_X4_state l Γ 18  σ_41 (v_44, σ_45) h_46) cy_X4_state (x_recv K hB isK_0.2 (ent_4 isK_0.1) rfl) wd_106 ⟨rfl, rfl, Nat.le_of_ble_eq_true rfl, Nat.le_of_ble_eq_true rfl⟩ (Nat.le_of_ble_eq_true rfl) ⟨Nat.zero_le _, Nat.zero_le _⟩ dL_reset_211) hB (fun H locs hB => ?_)
    replace hB : Bd Γ σ_45 s H locs := hB
    exact w_L_reset_214 M K a3 a4 a5  v_44 3 _ _ _ _  hB (lv_sub hl [1, 2] rfl) hr
  · rw [if_neg c_43] at hr
    refine lv_iconst (v := 0) M.1 M.2.1 dL_reset_204 (by decide) ?_
    refine lv_goto (tgt := 214) M.1 M.2.1 dL_reset_205 (by decide) ?_
    exact w_L_reset_214 M K a3 a4 a5  0 3 _ _ _ _  hB (lv_sub hl [1, 2] rfl) hr
def f_L_reset_183 (a3 : Int32) (a4 : Int32) (a5 : Int32)  (x8 : Int32) (s0 : Int32) (s1 : Int32) (σ : Sg) : Option (Int32 × Sg) :=
if s1 < 0 ∨ 14 ≤ s1.toNatClampNeg then none else
wb (st σ 150 (s1.toNatClampNeg) s0) fun σ_37 =>
if x8 = 0 then
f_L_reset_196 a3 a4 a5  x8 0 0 σ_37
else
f_L_reset_196 a3 a4 a5  x8 2 0 σ_37
set_option maxHeartbeats 4000000 in
set_option maxRecDepth 100000 in
theorem w_L_reset_183 {p : Program} {l : Launch} {e : Env} {s : State} {m : MethodId} {args : Array Value} {below : List Frame} {meth : Method} {c : Code} {Γ : GG} {res : Int32 × Sg} (M : MX RL cL_reset 9 none p s m args meth c) (K : KK Γ s s.heap) (a3 : Int32) (a4 : Int32) (a5 : Int32) (x8 : Int32) (s0 : Int32) (s1 : Int32) (σ : Sg) (H : Heap) (locs : List Loc) (ls : Array Slot)  (hB : Bd Γ σ s H locs) (hl : lv_has ls 9 [(0, .ref (Γ.1 0)), (1, .ref (Γ.1 150)), (2, .ref (Γ.1 151)), (8, .int x8)]) (hr : f_L_reset_183 a3 a4 a5  x8 s0 s1 σ = some res) : WV Γ rm_L_reset p l e s m args below meth c H locs res (F0 m 183 ls [.int s0, .int s1, .ref (Γ.1 150)]) := by
  unfold f_L_reset_183 at hr
  obtain ⟨g_36, hr⟩ := gd hr
  obtain ⟨σ_37, e_38, hr⟩ := wbd hr
  refine x_iast M K hB isA_150 g_36 dL_reset_183 (fun H locs hB => ?_)
  rw [← e_38] at hB
  refine lv_aload_n M.1 M.2.1 dL_reset_184 rfl (lv_at hl 1 rfl) ?_
  refine lv_iconst (v := 0) M.1 M.2.1 dL_reset_185 (by decide) ?_
  refine lv_iload M.1 M.2.1 dL_reset_186 (lv_at hl 3 rfl) ?_
  refine lv_if_eq (tgt := 195) M.1 M.2.1 dL_reset_188 (by decide) (fun c_39 => ?_) (fun c_39 => ?_)
  · rw [if_pos c_39] at hr
    refine lv_iconst (v := 0) M.1 M.2.1 dL_reset_195 (by decide) ?_
    exact w_L_reset_196 M K a3 a4 a5  x8 0 0 _ _ _ _  hB (lv_sub hl [0, 1, 2, 3] rfl) hr
  · rw [if_neg c_39] at hr
    refine lv_iconst (v := 2) M.1 M.2.1 dL_reset_191 (by decide) ?_
    refine lv_goto (tgt := 196) M.1 M.2.1 dL_reset_192 (by decide) ?_
    exact w_L_reset_196 M K a3 a4 a5  x8 2 0 _ _ _ _  hB (lv_sub hl [0, 1, 2, 3] rfl) hr
def f_L_reset_168 (a3 : Int32) (a4 : Int32) (a5 : Int32)  (x7 : Int32) (x8 : Int32) (s0 : Int32) (s1 : Int32) (σ : Sg) : Option (Int32 × Sg) :=
if s1 < 0 ∨ 14 ≤ s1.toNatClampNeg then none else
wb (st σ 150 (s1.toNatClampNeg) s0) fun σ_33 =>
if x7 = 0 then
f_L_reset_183 a3 a4 a5  x8 (σ_33 150 1) 1 σ_33
else
f_L_reset_183 a3 a4 a5  x8 1 1 σ_33
set_option maxHeartbeats 4000000 in
set_option maxRecDepth 100000 in
theorem w_L_reset_168 {p : Program} {l : Launch} {e : Env} {s : State} {m : MethodId} {args : Array Value} {below : List Frame} {meth : Method} {c : Code} {Γ : GG} {res : Int32 × Sg} (M : MX RL cL_reset 9 none p s m args meth c) (K : KK Γ s s.heap) (a3 : Int32) (a4 : Int32) (a5 : Int32) (x7 : Int32) (x8 : Int32) (s0 : Int32) (s1 : Int32) (σ : Sg) (H : Heap) (locs : List Loc) (ls : Array Slot)  (hB : Bd Γ σ s H locs) (hl : lv_has ls 9 [(0, .ref (Γ.1 0)), (1, .ref (Γ.1 150)), (2, .ref (Γ.1 151)), (7, .int x7), (8, .int x8)]) (hr : f_L_reset_168 a3 a4 a5  x7 x8 s0 s1 σ = some res) : WV Γ rm_L_reset p l e s m args below meth c H locs res (F0 m 168 ls [.int s0, .int s1, .ref (Γ.1 150)]) := by
  unfold f_L_reset_168 at hr
  obtain ⟨g_32, hr⟩ := gd hr
  obtain ⟨σ_33, e_34, hr⟩ := wbd hr
  refine x_iast M K hB isA_150 g_32 dL_reset_168 (fun H locs hB => ?_)
  rw [← e_34] at hB
  refine lv_aload_n M.1 M.2.1 dL_reset_169 rfl (lv_at hl 1 rfl) ?_
  refine lv_iconst (v := 1) M.1 M.2.1 dL_reset_170 (by decide) ?_
  refine lv_iload M.1 M.2.1 dL_reset_171 (lv_at hl 3 rfl) ?_
  refine lv_if_eq (tgt := 180) M.1 M.2.1 dL_reset_173 (by decide) (fun c_35 => ?_) (fun c_35 => ?_)
  · rw [if_pos c_35] at hr
    refine lv_aload_n M.1 M.2.1 dL_reset_180 rfl (lv_at hl 1 rfl) ?_
    refine lv_iconst (v := 1) M.1 M.2.1 dL_reset_181 (by decide) ?_
    refine x_ialdL M K hB isA_150 (k := 1) (by decide) (by decide) dL_reset_182 ?_
    exact w_L_reset_183 M K a3 a4 a5  x8 (σ_33 150 1) 1 _ _ _ _  hB (lv_sub hl [0, 1, 2, 4] rfl) hr
  · rw [if_neg c_35] at hr
    refine lv_iconst (v := 1) M.1 M.2.1 dL_reset_176 (by decide) ?_
    refine lv_goto (tgt := 183) M.1 M.2.1 dL_reset_177 (by decide) ?_
    exact w_L_reset_183 M K a3 a4 a5  x8 1 1 _ _ _ _  hB (lv_sub hl [0, 1, 2, 4] rfl) hr
def f_L_reset_165 (a3 : Int32) (a4 : Int32) (a5 : Int32)  (x7 : Int32) (x8 : Int32) (s0 : Int32) (σ : Sg) : Option (Int32 × Sg) :=
f_L_reset_168 a3 a4 a5  x7 x8 (σ 150 2) s0 σ
set_option maxHeartbeats 4000000 in
set_option maxRecDepth 100000 in
theorem w_L_reset_165 {p : Program} {l : Launch} {e : Env} {s : State} {m : MethodId} {args : Array Value} {below : List Frame} {meth : Method} {c : Code} {Γ : GG} {res : Int32 × Sg} (M : MX RL cL_reset 9 none p s m args meth c) (K : KK Γ s s.heap) (a3 : Int32) (a4 : Int32) (a5 : Int32) (x7 : Int32) (x8 : Int32) (s0 : Int32) (σ : Sg) (H : Heap) (locs : List Loc) (ls : Array Slot)  (hB : Bd Γ σ s H locs) (hl : lv_has ls 9 [(0, .ref (Γ.1 0)), (1, .ref (Γ.1 150)), (2, .ref (Γ.1 151)), (7, .int x7), (8, .int x8)]) (hr : f_L_reset_165 a3 a4 a5  x7 x8 s0 σ = some res) : WV Γ rm_L_reset p l e s m args below meth c H locs res (F0 m 165 ls [.int s0, .ref (Γ.1 150)]) := by
  unfold f_L_reset_165 at hr
  refine lv_aload_n M.1 M.2.1 dL_reset_165 rfl (lv_at hl 1 rfl) ?_
  refine lv_iconst (v := 2) M.1 M.2.1 dL_reset_166 (by decide) ?_
  refine x_ialdL M K hB isA_150 (k := 2) (by decide) (by decide) dL_reset_167 ?_
  exact w_L_reset_168 M K a3 a4 a5  x7 x8 (σ 150 2) s0 _ _ _ _  hB (lv_sub hl [0, 1, 2, 3, 4] rfl) hr
def f_L_reset_147 (a3 : Int32) (a4 : Int32) (a5 : Int32)  (x7 : Int32) (s0 : Int32) (σ : Sg) : Option (Int32 × Sg) :=
if x7 = 0 then
f_L_reset_165 a3 a4 a5  x7 s0 2 σ
else
if s0 = 0 then
f_L_reset_168 a3 a4 a5  x7 s0 0 2 σ
else
f_L_reset_165 a3 a4 a5  x7 s0 2 σ
set_option maxHeartbeats 4000000 in
set_option maxRecDepth 100000 in
theorem w_L_reset_147 {p : Program} {l : Launch} {e : Env} {s : State} {m : MethodId} {args : Array Value} {below : List Frame} {meth : Method} {c : Code} {Γ : GG} {res : Int32 × Sg} (M : MX RL cL_reset 9 none p s m args meth c) (K : KK Γ s s.heap) (a3 : Int32) (a4 : Int32) (a5 : Int32) (x7 : Int32) (s0 : Int32) (σ : Sg) (H : Heap) (locs : List Loc) (ls : Array Slot)  (hB : Bd Γ σ s H locs) (hl : lv_has ls 9 [(0, .ref (Γ.1 0)), (1, .ref (Γ.1 150)), (2, .ref (Γ.1 151)), (7, .int x7)]) (hr : f_L_reset_147 a3 a4 a5  x7 s0 σ = some res) : WV Γ rm_L_reset p l e s m args below meth c H locs res (F0 m 147 ls [.int s0]) := by
  unfold f_L_reset_147 at hr
  refine lv_istore (lv' := [(8, .int s0), (0, .ref (Γ.1 0)), (1, .ref (Γ.1 150)), (2, .ref (Γ.1 151)), (7, .int x7)]) M.1 M.2.1 dL_reset_147 hl (by decide) rfl (fun ls hl => ?_)
  refine lv_aload_n M.1 M.2.1 dL_reset_149 rfl (lv_at hl 2 rfl) ?_
  refine lv_iconst (v := 2) M.1 M.2.1 dL_reset_150 (by decide) ?_
  refine lv_iload M.1 M.2.1 dL_reset_151 (lv_at hl 4 rfl) ?_
  refine lv_if_eq (tgt := 165) M.1 M.2.1 dL_reset_153 (by decide) (fun c_30 => ?_) (fun c_30 => ?_)
  · rw [if_pos c_30] at hr
    exact w_L_reset_165 M K a3 a4 a5  x7 s0 2 _ _ _ _  hB (lv_sub hl [1, 2, 3, 4, 0] rfl) hr
  · rw [if_neg c_30] at hr
    refine lv_iload M.1 M.2.1 dL_reset_156 (lv_at hl 0 rfl) ?_
    refine lv_if_ne (tgt := 165) M.1 M.2.1 dL_reset_158 (by decide) (fun c_31 => ?_) (fun c_31 => ?_)
    · rw [if_neg c_31] at hr
      exact w_L_reset_165 M K a3 a4 a5  x7 s0 2 _ _ _ _  hB (lv_sub hl [1, 2, 3, 4, 0] rfl) hr
    · rw [if_pos c_31] at hr
      refine lv_iconst (v := 0) M.1 M.2.1 dL_reset_161 (by decide) ?_
      refine lv_goto (tgt := 168) M.1 M.2.1 dL_reset_162 (by decide) ?_
      exact w_L_reset_168 M K a3 a4 a5  x7 s0 0 2 _ _ _ _  hB (lv_sub hl [1, 2, 3, 4, 0] rfl) hr
def f_L_reset_146 (a3 : Int32) (a4 : Int32) (a5 : Int32)  (x7 : Int32) (σ : Sg) : Option (Int32 × Sg) :=
f_L_reset_147 a3 a4 a5  x7 0 σ
set_option maxHeartbeats 4000000 in
set_option maxRecDepth 100000 in
theorem w_L_reset_146 {p : Program} {l : Launch} {e : Env} {s : State} {m : MethodId} {args : Array Value} {below : List Frame} {meth : Method} {c : Code} {Γ : GG} {res : Int32 × Sg} (M : MX RL cL_reset 9 none p s m args meth c) (K : KK Γ s s.heap) (a3 : Int32) (a4 : Int32) (a5 : Int32) (x7 : Int32) (σ : Sg) (H : Heap) (locs : List Loc) (ls : Array Slot)  (hB : Bd Γ σ s H locs) (hl : lv_has ls 9 [(0, .ref (Γ.1 0)), (1, .ref (Γ.1 150)), (2, .ref (Γ.1 151)), (7, .int x7)]) (hr : f_L_reset_146 a3 a4 a5  x7 σ = some res) : WV Γ rm_L_reset p l e s m args below meth c H locs res (F0 m 146 ls []) := by
  unfold f_L_reset_146 at hr
  refine lv_iconst (v := 0) M.1 M.2.1 dL_reset_146 (by decide) ?_
  exact w_L_reset_147 M K a3 a4 a5  x7 0 _ _ _ _  hB (lv_sub hl [0, 1, 2, 3] rfl) hr
def f_L_reset_128 (a3 : Int32) (a4 : Int32) (a5 : Int32)  (s0 : Int32) (σ : Sg) : Option (Int32 × Sg) :=
if s0 = 0 then
f_L_reset_146 a3 a4 a5  s0 σ
else
if σ 150 1 = 1 then
f_L_reset_147 a3 a4 a5  s0 1 σ
else
f_L_reset_146 a3 a4 a5  s0 σ
set_option maxHeartbeats 4000000 in
set_option maxRecDepth 100000 in
theorem w_L_reset_128 {p : Program} {l : Launch} {e : Env} {s : State} {m : MethodId} {args : Array Value} {below : List Frame} {meth : Method} {c : Code} {Γ : GG} {res : Int32 × Sg} (M : MX RL cL_reset 9 none p s m args meth c) (K : KK Γ s s.heap) (a3 : Int32) (a4 : Int32) (a5 : Int32) (s0 : Int32) (σ : Sg) (H : Heap) (locs : List Loc) (ls : Array Slot)  (hB : Bd Γ σ s H locs) (hl : lv_has ls 9 [(0, .ref (Γ.1 0)), (1, .ref (Γ.1 150)), (2, .ref (Γ.1 151))]) (hr : f_L_reset_128 a3 a4 a5  s0 σ = some res) : WV Γ rm_L_reset p l e s m args below meth c H locs res (F0 m 128 ls [.int s0]) := by
  unfold f_L_reset_128 at hr
  refine lv_istore (lv' := [(7, .int s0), (0, .ref (Γ.1 0)), (1, .ref (Γ.1 150)), (2, .ref (Γ.1 151))]) M.1 M.2.1 dL_reset_128 hl (by decide) rfl (fun ls hl => ?_)
  refine lv_iload M.1 M.2.1 dL_reset_130 (lv_at hl 0 rfl) ?_
  refine lv_if_eq (tgt := 146) M.1 M.2.1 dL_reset_132 (by decide) (fun c_28 => ?_) (fun c_28 => ?_)
  · rw [if_pos c_28] at hr
    exact w_L_reset_146 M K a3 a4 a5  s0 _ _ _ _  hB (lv_sub hl [1, 2, 3, 0] rfl) hr
  · rw [if_neg c_28] at hr
    refine lv_aload_n M.1 M.2.1 dL_reset_135 rfl (lv_at hl 2 rfl) ?_
    refine lv_iconst (v := 1) M.1 M.2.1 dL_reset_136 (by decide) ?_
    refine x_ialdL M K hB isA_150 (k := 1) (by decide) (by decide) dL_reset_137 ?_
    refine lv_iconst (v := 1) M.1 M.2.1 dL_reset_138 (by decide) ?_
    refine lv_icmp_ne (tgt := 146) M.1 M.2.1 dL_reset_139 (by decide) (fun c_29 => ?_) (fun c_29 => ?_)
    · rw [if_neg c_29] at hr
      exact w_L_reset_146 M K a3 a4 a5  s0 _ _ _ _  hB (lv_sub hl [1, 2, 3, 0] rfl) hr
    · rw [if_pos c_29] at hr
      refine lv_iconst (v := 1) M.1 M.2.1 dL_reset_142 (by decide) ?_
      refine lv_goto (tgt := 147) M.1 M.2.1 dL_reset_143 (by decide) ?_
      exact w_L_reset_147 M K a3 a4 a5  s0 1 _ _ _ _  hB (lv_sub hl [1, 2, 3, 0] rfl) hr
def f_L_reset_104 (a3 : Int32) (a4 : Int32) (a5 : Int32)   (σ : Sg) : Option (Int32 × Sg) :=
wb (st σ 150 2 ((σ 150 2) + 1)) fun σ_22 =>
cb (f_X4_state_0 20 σ_22) fun v_24 σ_25 =>
if σ_22 150 2 < v_24 then
f_L_reset_128 a3 a4 a5  0 σ_25
else
f_L_reset_128 a3 a4 a5  1 σ_25
set_option maxHeartbeats 4000000 in
set_option maxRecDepth 100000 in
theorem w_L_reset_104 {p : Program} {l : Launch} {e : Env} {s : State} {m : MethodId} {args : Array Value} {below : List Frame} {meth : Method} {c : Code} {Γ : GG} {res : Int32 × Sg} (M : MX RL cL_reset 9 none p s m args meth c) (K : KK Γ s s.heap) (a3 : Int32) (a4 : Int32) (a5 : Int32)  (σ : Sg) (H : Heap) (locs : List Loc) (ls : Array Slot)  (hB : Bd Γ σ s H locs) (hl : lv_has ls 9 [(0, .ref (Γ.1 0)), (1, .ref (Γ.1 150)), (2, .ref (Γ.1 151))]) (hr : f_L_reset_104 a3 a4 a5   σ = some res) : WV Γ rm_L_reset p l e s m args below meth c H locs res (F0 m 104 ls []) := by
  unfold f_L_reset_104 at hr
  refine lv_aload_n M.1 M.2.1 dL_reset_104 rfl (lv_at hl 1 rfl) ?_
  refine lv_iconst (v := 2) M.1 M.2.1 dL_reset_105 (by decide) ?_
  refine lv_dup2_11 M.1 M.2.1 dL_reset_106 rfl rfl ?_
  refine x_ialdL M K hB isA_150 (k := 2) (by decide) (by decide) dL_reset_107 ?_
  refine lv_iconst (v := 1) M.1 M.2.1 dL_reset_108 (by decide) ?_
  refine lv_iadd M.1 M.2.1 dL_reset_109 ?_
  obtain ⟨σ_22, e_23, hr⟩ := wbd hr
  refine x_iastL M K hB isA_150 (k := 2) (by decide) (by decide) dL_reset_110 (fun H locs hB => ?_)
  rw [← e_23] at hB
  refine lv_aload_n M.1 M.2.1 dL_reset_111 rfl (lv_at hl 1 rfl) ?_
  refine lv_iconst (v := 2) M.1 M.2.1 dL_reset_112 (by decide) ?_
  refine x_ialdL M K hB isA_150 (k := 2) (by decide) (by decide) dL_reset_113 ?_
  refine lv_aload_n M.1 M.2.1 dL_reset_114 rfl (lv_at hl 0 rfl) ?_
  refine lv_bipush (v := 20) M.1 M.2.1 dL_reset_115 (by decide) ?_
  obtain ⟨v_24, σ_25, h_26, hr⟩ := cbd hr
  refine x_callI (x_runV M K hB hl.1 [.int 20] (rest := [.int (σ_22 150 2)]) rfl (c_X4_state l Γ 20  σ_22 (v_24, σ_25) h_26) cy_X4_state (x_recv K hB isK_0.2 (ent_4 isK_0.1) rfl) wd_106 ⟨rfl, rfl, Nat.le_of_ble_eq_true rfl, Nat.le_of_ble_eq_true rfl⟩ (Nat.le_of_ble_eq_true rfl) ⟨Nat.zero_le _, Nat.zero_le _⟩ dL_reset_117) hB (fun H locs hB => ?_)
  replace hB : Bd Γ σ_25 s H locs := hB
  refine lv_icmp_lt (tgt := 127) M.1 M.2.1 dL_reset_120 (by decide) (fun c_27 => ?_) (fun c_27 => ?_)
  · rw [if_pos c_27] at hr
    refine lv_iconst (v := 0) M.1 M.2.1 dL_reset_127 (by decide) ?_
    exact w_L_reset_128 M K a3 a4 a5  0 _ _ _ _  hB (lv_sub hl [0, 1, 2] rfl) hr
  · rw [if_neg c_27] at hr
    refine lv_iconst (v := 1) M.1 M.2.1 dL_reset_123 (by decide) ?_
    refine lv_goto (tgt := 128) M.1 M.2.1 dL_reset_124 (by decide) ?_
    exact w_L_reset_128 M K a3 a4 a5  1 _ _ _ _  hB (lv_sub hl [0, 1, 2] rfl) hr
def f_L_reset_46 (a3 : Int32) (a4 : Int32) (a5 : Int32)  (x3 : Int32) (x5 : Int32) (x6 : Int32) (σ : Sg) : Option (Int32 × Sg) :=
wb (st σ 150 9 x3) fun σ_5 =>
wb (st σ_5 150 10 x5) fun σ_7 =>
wb (st σ_7 150 11 x6) fun σ_9 =>
wb (st σ_9 150 12 (σ_9 150 1)) fun σ_11 =>
wb (st σ_11 150 13 (σ_11 150 4)) fun σ_13 =>
wb (st σ_13 150 8 ((σ_13 150 8) + 1)) fun σ_15 =>
if x6 < 0 then
f_L_reset_104 a3 a4 a5   σ_15
else
if (10 * x6) + 9 < 0 ∨ 30 ≤ ((10 * x6) + 9).toNatClampNeg then none else
if (10 * x6) + 9 < 0 ∨ 30 ≤ ((10 * x6) + 9).toNatClampNeg then none else
wb (st σ_15 151 (((10 * x6) + 9).toNatClampNeg) ((σ_15 151 (((10 * x6) + 9).toNatClampNeg)) + 1)) fun σ_20 =>
f_L_reset_104 a3 a4 a5   σ_20
set_option maxHeartbeats 4000000 in
set_option maxRecDepth 100000 in
theorem w_L_reset_46 {p : Program} {l : Launch} {e : Env} {s : State} {m : MethodId} {args : Array Value} {below : List Frame} {meth : Method} {c : Code} {Γ : GG} {res : Int32 × Sg} (M : MX RL cL_reset 9 none p s m args meth c) (K : KK Γ s s.heap) (a3 : Int32) (a4 : Int32) (a5 : Int32) (x3 : Int32) (x5 : Int32) (x6 : Int32) (σ : Sg) (H : Heap) (locs : List Loc) (ls : Array Slot)  (hB : Bd Γ σ s H locs) (hl : lv_has ls 9 [(0, .ref (Γ.1 0)), (1, .ref (Γ.1 150)), (2, .ref (Γ.1 151)), (3, .int x3), (5, .int x5), (6, .int x6)]) (hr : f_L_reset_46 a3 a4 a5  x3 x5 x6 σ = some res) : WV Γ rm_L_reset p l e s m args below meth c H locs res (F0 m 46 ls []) := by
  unfold f_L_reset_46 at hr
  refine lv_aload_n M.1 M.2.1 dL_reset_46 rfl (lv_at hl 1 rfl) ?_
  refine lv_bipush (v := 9) M.1 M.2.1 dL_reset_47 (by decide) ?_
  refine lv_iload_n M.1 M.2.1 dL_reset_49 rfl (lv_at hl 3 rfl) ?_
  obtain ⟨σ_5, e_6, hr⟩ := wbd hr
  refine x_iastL M K hB isA_150 (k := 9) (by decide) (by decide) dL_reset_50 (fun H locs hB => ?_)
  rw [← e_6] at hB
  refine lv_aload_n M.1 M.2.1 dL_reset_51 rfl (lv_at hl 1 rfl) ?_
  refine lv_bipush (v := 10) M.1 M.2.1 dL_reset_52 (by decide) ?_
  refine lv_iload M.1 M.2.1 dL_reset_54 (lv_at hl 4 rfl) ?_
  obtain ⟨σ_7, e_8, hr⟩ := wbd hr
  refine x_iastL M K hB isA_150 (k := 10) (by decide) (by decide) dL_reset_56 (fun H locs hB => ?_)
  rw [← e_8] at hB
  refine lv_aload_n M.1 M.2.1 dL_reset_57 rfl (lv_at hl 1 rfl) ?_
  refine lv_bipush (v := 11) M.1 M.2.1 dL_reset_58 (by decide) ?_
  refine lv_iload M.1 M.2.1 dL_reset_60 (lv_at hl 5 rfl) ?_
  obtain ⟨σ_9, e_10, hr⟩ := wbd hr
  refine x_iastL M K hB isA_150 (k := 11) (by decide) (by decide) dL_reset_62 (fun H locs hB => ?_)
  rw [← e_10] at hB
  refine lv_aload_n M.1 M.2.1 dL_reset_63 rfl (lv_at hl 1 rfl) ?_
  refine lv_bipush (v := 12) M.1 M.2.1 dL_reset_64 (by decide) ?_
  refine lv_aload_n M.1 M.2.1 dL_reset_66 rfl (lv_at hl 1 rfl) ?_
  refine lv_iconst (v := 1) M.1 M.2.1 dL_reset_67 (by decide) ?_
  refine x_ialdL M K hB isA_150 (k := 1) (by decide) (by decide) dL_reset_68 ?_
  obtain ⟨σ_11, e_12, hr⟩ := wbd hr
  refine x_iastL M K hB isA_150 (k := 12) (by decide) (by decide) dL_reset_69 (fun H locs hB => ?_)
  rw [← e_12] at hB
  refine lv_aload_n M.1 M.2.1 dL_reset_70 rfl (lv_at hl 1 rfl) ?_
  refine lv_bipush (v := 13) M.1 M.2.1 dL_reset_71 (by decide) ?_
  refine lv_aload_n M.1 M.2.1 dL_reset_73 rfl (lv_at hl 1 rfl) ?_
  refine lv_iconst (v := 4) M.1 M.2.1 dL_reset_74 (by decide) ?_
  refine x_ialdL M K hB isA_150 (k := 4) (by decide) (by decide) dL_reset_75 ?_
  obtain ⟨σ_13, e_14, hr⟩ := wbd hr
  refine x_iastL M K hB isA_150 (k := 13) (by decide) (by decide) dL_reset_76 (fun H locs hB => ?_)
  rw [← e_14] at hB
  refine lv_aload_n M.1 M.2.1 dL_reset_77 rfl (lv_at hl 1 rfl) ?_
  refine lv_bipush (v := 8) M.1 M.2.1 dL_reset_78 (by decide) ?_
  refine lv_dup2_11 M.1 M.2.1 dL_reset_80 rfl rfl ?_
  refine x_ialdL M K hB isA_150 (k := 8) (by decide) (by decide) dL_reset_81 ?_
  refine lv_iconst (v := 1) M.1 M.2.1 dL_reset_82 (by decide) ?_
  refine lv_iadd M.1 M.2.1 dL_reset_83 ?_
  obtain ⟨σ_15, e_16, hr⟩ := wbd hr
  refine x_iastL M K hB isA_150 (k := 8) (by decide) (by decide) dL_reset_84 (fun H locs hB => ?_)
  rw [← e_16] at hB
  refine lv_iload M.1 M.2.1 dL_reset_85 (lv_at hl 5 rfl) ?_
  refine lv_if_lt (tgt := 104) M.1 M.2.1 dL_reset_87 (by decide) (fun c_17 => ?_) (fun c_17 => ?_)
  · rw [if_pos c_17] at hr
    exact w_L_reset_104 M K a3 a4 a5   _ _ _ _  hB (lv_sub hl [0, 1, 2] rfl) hr
  · rw [if_neg c_17] at hr
    refine lv_aload_n M.1 M.2.1 dL_reset_90 rfl (lv_at hl 2 rfl) ?_
    refine lv_bipush (v := 10) M.1 M.2.1 dL_reset_91 (by decide) ?_
    refine lv_iload M.1 M.2.1 dL_reset_93 (lv_at hl 5 rfl) ?_
    refine lv_imul M.1 M.2.1 dL_reset_95 ?_
    refine lv_bipush (v := 9) M.1 M.2.1 dL_reset_96 (by decide) ?_
    refine lv_iadd M.1 M.2.1 dL_reset_98 ?_
    refine lv_dup2_11 M.1 M.2.1 dL_reset_99 rfl rfl ?_
    obtain ⟨g_18, hr⟩ := gd hr
    refine x_iald M K hB isA_151 g_18 dL_reset_100 ?_
    refine lv_iconst (v := 1) M.1 M.2.1 dL_reset_101 (by decide) ?_
    refine lv_iadd M.1 M.2.1 dL_reset_102 ?_
    obtain ⟨g_19, hr⟩ := gd hr
    obtain ⟨σ_20, e_21, hr⟩ := wbd hr
    refine x_iast M K hB isA_151 g_19 dL_reset_103 (fun H locs hB => ?_)
    rw [← e_21] at hB
    exact w_L_reset_104 M K a3 a4 a5   _ _ _ _  hB (lv_sub hl [0, 1, 2] rfl) hr
def f_L_reset_38 (a3 : Int32) (a4 : Int32) (a5 : Int32) (rec_7 : Int32 → Int32 → Int32 → Int32 → Sg → Option (Int32 × Sg)) (x3 : Int32) (x5 : Int32) (x7 : Int32) (s0 : Int32) (σ : Sg) : Option (Int32 × Sg) :=
rec_7 x3 x5 s0 (x7 + (-1)) σ
set_option maxHeartbeats 4000000 in
set_option maxRecDepth 100000 in
theorem w_L_reset_38 {p : Program} {l : Launch} {e : Env} {s : State} {m : MethodId} {args : Array Value} {below : List Frame} {meth : Method} {c : Code} {Γ : GG} {res : Int32 × Sg} (M : MX RL cL_reset 9 none p s m args meth c) (K : KK Γ s s.heap) (a3 : Int32) (a4 : Int32) (a5 : Int32) (rec_7 : Int32 → Int32 → Int32 → Int32 → Sg → Option (Int32 × Sg)) (ih_7 : ∀ (x3 : Int32) (x5 : Int32) (x6 : Int32) (x7 : Int32) (σ : Sg) (H : Heap) (locs : List Loc) (ls : Array Slot) , Bd Γ σ s H locs → lv_has ls 9 [(0, .ref (Γ.1 0)), (1, .ref (Γ.1 150)), (2, .ref (Γ.1 151)), (3, .int x3), (5, .int x5), (6, .int x6), (7, .int x7)] → rec_7 x3 x5 x6 x7 σ = some res → WV Γ rm_L_reset p l e s m args below meth c H locs res (F0 m 7 ls [])) (x3 : Int32) (x5 : Int32) (x7 : Int32) (s0 : Int32) (σ : Sg) (H : Heap) (locs : List Loc) (ls : Array Slot)  (hB : Bd Γ σ s H locs) (hl : lv_has ls 9 [(0, .ref (Γ.1 0)), (1, .ref (Γ.1 150)), (2, .ref (Γ.1 151)), (3, .int x3), (5, .int x5), (7, .int x7)]) (hr : f_L_reset_38 a3 a4 a5 rec_7 x3 x5 x7 s0 σ = some res) : WV Γ rm_L_reset p l e s m args below meth c H locs res (F0 m 38 ls [.int s0]) := by
  unfold f_L_reset_38 at hr
  refine lv_istore (lv' := [(6, .int s0), (0, .ref (Γ.1 0)), (1, .ref (Γ.1 150)), (2, .ref (Γ.1 151)), (3, .int x3), (5, .int x5), (7, .int x7)]) M.1 M.2.1 dL_reset_38 hl (by decide) rfl (fun ls hl => ?_)
  refine lv_iinc (v := x7 + (-1)) (lv' := [(7, .int (x7 + (-1))), (6, .int s0), (0, .ref (Γ.1 0)), (1, .ref (Γ.1 150)), (2, .ref (Γ.1 151)), (3, .int x3), (5, .int x5)]) M.1 M.2.1 dL_reset_40 hl (k := 6) rfl rfl (by decide) rfl (fun ls hl => ?_)
  refine lv_goto (tgt := 7) M.1 M.2.1 dL_reset_43 (by decide) ?_
  exact ih_7 x3 x5 s0 (x7 + (-1)) _ _ _ _  hB (lv_sub hl [2, 3, 4, 5, 6, 1, 0] rfl) hr
def f_L_reset_7 (a3 : Int32) (a4 : Int32) (a5 : Int32)  : Nat → Int32 → Int32 → Int32 → Int32 → Sg → Option (Int32 × Sg)
  | 0, _, _, _, _, _ => none
  | f + 1, x3, x5, x6, x7, σ => if x7 < 0 then
f_L_reset_46 a3 a4 a5  x3 x5 x6 σ
else
if x3 = 3 then
f_L_reset_46 a3 a4 a5  x3 x5 x6 σ
else
if (10 * x7) + 7 < 0 ∨ 30 ≤ ((10 * x7) + 7).toNatClampNeg then none else
if σ 151 (((10 * x7) + 7).toNatClampNeg) = 1 then
f_L_reset_38 a3 a4 a5 (f_L_reset_7 a3 a4 a5  f) x3 x5 x7 x7 σ
else
f_L_reset_38 a3 a4 a5 (f_L_reset_7 a3 a4 a5  f) x3 x5 x7 x6 σ
set_option maxHeartbeats 4000000 in
set_option maxRecDepth 100000 in
theorem w_L_reset_7 {p : Program} {l : Launch} {e : Env} {s : State} {m : MethodId} {args : Array Value} {below : List Frame} {meth : Method} {c : Code} {Γ : GG} {res : Int32 × Sg} (M : MX RL cL_reset 9 none p s m args meth c) (K : KK Γ s s.heap) (a3 : Int32) (a4 : Int32) (a5 : Int32) : ∀ (f : Nat) (x3 : Int32) (x5 : Int32) (x6 : Int32) (x7 : Int32) (σ : Sg) (H : Heap) (locs : List Loc) (ls : Array Slot)  (hB : Bd Γ σ s H locs) (hl : lv_has ls 9 [(0, .ref (Γ.1 0)), (1, .ref (Γ.1 150)), (2, .ref (Γ.1 151)), (3, .int x3), (5, .int x5), (6, .int x6), (7, .int x7)]) (hr : f_L_reset_7 a3 a4 a5  f x3 x5 x6 x7 σ = some res), WV Γ rm_L_reset p l e s m args below meth c H locs res (F0 m 7 ls []) := by
  intro f
  induction f with
  | zero => intros; rename_i hr; exact absurd hr (by rw [f_L_reset_7]; exact fun h => by cases h)
  | succ f ih_7 =>
    intro x3 x5 x6 x7 σ H locs ls  hB hl hr
    rw [f_L_reset_7] at hr
    refine lv_iload M.1 M.2.1 dL_reset_7 (lv_at hl 6 rfl) ?_
    refine lv_if_lt (tgt := 46) M.1 M.2.1 dL_reset_9 (by decide) (fun c_1 => ?_) (fun c_1 => ?_)
    · rw [if_pos c_1] at hr
      exact w_L_reset_46 M K a3 a4 a5  x3 x5 x6 _ _ _ _  hB (lv_sub hl [0, 1, 2, 3, 4, 5] rfl) hr
    · rw [if_neg c_1] at hr
      refine lv_iload_n M.1 M.2.1 dL_reset_12 rfl (lv_at hl 3 rfl) ?_
      refine lv_iconst (v := 3) M.1 M.2.1 dL_reset_13 (by decide) ?_
      refine lv_icmp_eq (tgt := 46) M.1 M.2.1 dL_reset_14 (by decide) (fun c_2 => ?_) (fun c_2 => ?_)
      · rw [if_pos c_2] at hr
        exact w_L_reset_46 M K a3 a4 a5  x3 x5 x6 _ _ _ _  hB (lv_sub hl [0, 1, 2, 3, 4, 5] rfl) hr
      · rw [if_neg c_2] at hr
        refine lv_aload_n M.1 M.2.1 dL_reset_17 rfl (lv_at hl 2 rfl) ?_
        refine lv_bipush (v := 10) M.1 M.2.1 dL_reset_18 (by decide) ?_
        refine lv_iload M.1 M.2.1 dL_reset_20 (lv_at hl 6 rfl) ?_
        refine lv_imul M.1 M.2.1 dL_reset_22 ?_
        refine lv_bipush (v := 7) M.1 M.2.1 dL_reset_23 (by decide) ?_
        refine lv_iadd M.1 M.2.1 dL_reset_25 ?_
        obtain ⟨g_3, hr⟩ := gd hr
        refine x_iald M K hB isA_151 g_3 dL_reset_26 ?_
        refine lv_iconst (v := 1) M.1 M.2.1 dL_reset_27 (by decide) ?_
        refine lv_icmp_ne (tgt := 36) M.1 M.2.1 dL_reset_28 (by decide) (fun c_4 => ?_) (fun c_4 => ?_)
        · rw [if_neg c_4] at hr
          refine lv_iload M.1 M.2.1 dL_reset_36 (lv_at hl 5 rfl) ?_
          exact w_L_reset_38 M K a3 a4 a5 _ ih_7 x3 x5 x7 x6 _ _ _ _  hB (lv_sub hl [0, 1, 2, 3, 4, 6] rfl) hr
        · rw [if_pos c_4] at hr
          refine lv_iload M.1 M.2.1 dL_reset_31 (lv_at hl 6 rfl) ?_
          refine lv_goto (tgt := 38) M.1 M.2.1 dL_reset_33 (by decide) ?_
          exact w_L_reset_38 M K a3 a4 a5 _ ih_7 x3 x5 x7 x7 _ _ _ _  hB (lv_sub hl [0, 1, 2, 3, 4, 6] rfl) hr
def f_L_reset_0 (a3 : Int32) (a4 : Int32) (a5 : Int32)   (σ : Sg) : Option (Int32 × Sg) :=
f_L_reset_7 a3 a4 a5  FU a3 a5 a4 2 σ
set_option maxHeartbeats 4000000 in
set_option maxRecDepth 100000 in
theorem w_L_reset_0 {p : Program} {l : Launch} {e : Env} {s : State} {m : MethodId} {args : Array Value} {below : List Frame} {meth : Method} {c : Code} {Γ : GG} {res : Int32 × Sg} (M : MX RL cL_reset 9 none p s m args meth c) (K : KK Γ s s.heap) (a3 : Int32) (a4 : Int32) (a5 : Int32)  (σ : Sg) (H : Heap) (locs : List Loc) (ls : Array Slot)  (hB : Bd Γ σ s H locs) (hl : lv_has ls 9 [(0, .ref (Γ.1 0)), (1, .ref (Γ.1 150)), (2, .ref (Γ.1 151)), (3, .int a3), (4, .int a4), (5, .int a5)]) (hr : f_L_reset_0 a3 a4 a5   σ = some res) : WV Γ rm_L_reset p l e s m args below meth c H locs res (F0 m 0 ls []) := by
  unfold f_L_reset_0 at hr
  refine lv_iload M.1 M.2.1 dL_reset_0 (lv_at hl 4 rfl) ?_
  refine lv_istore (lv' := [(6, .int a4), (0, .ref (Γ.1 0)), (1, .ref (Γ.1 150)), (2, .ref (Γ.1 151)), (3, .int a3), (4, .int a4), (5, .int a5)]) M.1 M.2.1 dL_reset_2 hl (by decide) rfl (fun ls hl => ?_)
  refine lv_iconst (v := 2) M.1 M.2.1 dL_reset_4 (by decide) ?_
  refine lv_istore (lv' := [(7, .int 2), (6, .int a4), (0, .ref (Γ.1 0)), (1, .ref (Γ.1 150)), (2, .ref (Γ.1 151)), (3, .int a3), (4, .int a4), (5, .int a5)]) M.1 M.2.1 dL_reset_5 hl (by decide) rfl (fun ls hl => ?_)
  exact w_L_reset_7 M K a3 a4 a5  FU a3 a5 a4 2 _ _ _ _  hB (lv_sub hl [2, 3, 4, 5, 7, 1, 0] rfl) hr
theorem c_L_reset (l : Launch) (Γ : GG) (a3 : Int32) (a4 : Int32) (a5 : Int32)  (σ : Sg) (res : Int32 × Sg) (hr : f_L_reset_0 a3 a4 a5 σ = some res) : Met l yL_reset (Cond.code yL_reset cL_reset 9 none :: gtb) rm_L_reset (va_Pc [.ref (Γ.1 0), .ref (Γ.1 150), .ref (Γ.1 151), .int a3, .int a4, .int a5] (GI Γ σ)) (QV Γ res) 0 0 (AD Γ) :=
  x_metV (by decide) [.ref (Γ.1 0), .ref (Γ.1 150), .ref (Γ.1 151), .int a3, .int a4, .int a5] (Nat.le_of_ble_eq_true rfl) (fun p e s m args below meth c M K ls hl hB => w_L_reset_0 M K a3 a4 a5 σ _ _ ls hB hl hr)
end
section
abbrev rm_L_kicks : Room := { frames := 3, cells := 0, slots := 0, locals := 66 }
def f_L_kicks_278 (a3 : Int32)  (s0 : Int32) (σ : Sg) : Option (Int32 × Sg) :=
if s0 = 0 ∨ s0 = 1 then some (s0, σ) else none
set_option maxHeartbeats 4000000 in
set_option maxRecDepth 100000 in
theorem w_L_kicks_278 {p : Program} {l : Launch} {e : Env} {s : State} {m : MethodId} {args : Array Value} {below : List Frame} {meth : Method} {c : Code} {Γ : GG} {res : Int32 × Sg} (M : MX RL cL_kicks 8 (some .boolean) p s m args meth c) (K : KK Γ s s.heap) (a3 : Int32) (s0 : Int32) (σ : Sg) (H : Heap) (locs : List Loc) (ls : Array Slot)  (hB : Bd Γ σ s H locs) (hl : lv_has ls 8 []) (hr : f_L_kicks_278 a3  s0 σ = some res) : WI Γ rm_L_kicks p l e s m args below meth c H locs res (F0 m 278 ls [.int s0]) := by
  unfold f_L_kicks_278 at hr
  obtain ⟨g_64, hr⟩ := gd2 hr
  exact x_zret M hB (nar_z g_64) (Option.some.inj hr) dL_kicks_278
def f_L_kicks_277 (a3 : Int32)   (σ : Sg) : Option (Int32 × Sg) :=
f_L_kicks_278 a3  0 σ
set_option maxHeartbeats 4000000 in
set_option maxRecDepth 100000 in
theorem w_L_kicks_277 {p : Program} {l : Launch} {e : Env} {s : State} {m : MethodId} {args : Array Value} {below : List Frame} {meth : Method} {c : Code} {Γ : GG} {res : Int32 × Sg} (M : MX RL cL_kicks 8 (some .boolean) p s m args meth c) (K : KK Γ s s.heap) (a3 : Int32)  (σ : Sg) (H : Heap) (locs : List Loc) (ls : Array Slot)  (hB : Bd Γ σ s H locs) (hl : lv_has ls 8 []) (hr : f_L_kicks_277 a3   σ = some res) : WI Γ rm_L_kicks p l e s m args below meth c H locs res (F0 m 277 ls []) := by
  unfold f_L_kicks_277 at hr
  refine lv_iconst (v := 0) M.1 M.2.1 dL_kicks_277 (by decide) ?_
  exact w_L_kicks_278 M K a3  0 _ _ _ _  hB (lv_sub hl [] rfl) hr
def f_L_kicks_246 (a3 : Int32)  (s0 : Int32) (s1 : Int32) (s2 : Int32) (σ : Sg) : Option (Int32 × Sg) :=
if s2 < 0 ∨ 14 ≤ s2.toNatClampNeg then none else
wb (st σ 150 (s2.toNatClampNeg) (s1 + s0)) fun σ_54 =>
cb (f_X4_state_0 17 σ_54) fun v_56 σ_57 =>
if v_56 < σ_54 150 7 then
f_L_kicks_277 a3   σ_57
else
cb (f_X4_state_0 16 σ_57) fun v_60 σ_61 =>
if σ_57 150 5 < v_60 then
f_L_kicks_277 a3   σ_61
else
f_L_kicks_278 a3  1 σ_61
set_option maxHeartbeats 4000000 in
set_option maxRecDepth 100000 in
theorem w_L_kicks_246 {p : Program} {l : Launch} {e : Env} {s : State} {m : MethodId} {args : Array Value} {below : List Frame} {meth : Method} {c : Code} {Γ : GG} {res : Int32 × Sg} (M : MX RL cL_kicks 8 (some .boolean) p s m args meth c) (K : KK Γ s s.heap) (a3 : Int32) (s0 : Int32) (s1 : Int32) (s2 : Int32) (σ : Sg) (H : Heap) (locs : List Loc) (ls : Array Slot)  (hB : Bd Γ σ s H locs) (hl : lv_has ls 8 [(0, .ref (Γ.1 0)), (1, .ref (Γ.1 150))]) (hr : f_L_kicks_246 a3  s0 s1 s2 σ = some res) : WI Γ rm_L_kicks p l e s m args below meth c H locs res (F0 m 246 ls [.int s0, .int s1, .int s2, .ref (Γ.1 150)]) := by
  unfold f_L_kicks_246 at hr
  refine lv_iadd M.1 M.2.1 dL_kicks_246 ?_
  obtain ⟨g_53, hr⟩ := gd hr
  obtain ⟨σ_54, e_55, hr⟩ := wbd hr
  refine x_iast M K hB isA_150 g_53 dL_kicks_247 (fun H locs hB => ?_)
  rw [← e_55] at hB
  refine lv_aload_n M.1 M.2.1 dL_kicks_248 rfl (lv_at hl 1 rfl) ?_
  refine lv_bipush (v := 7) M.1 M.2.1 dL_kicks_249 (by decide) ?_
  refine x_ialdL M K hB isA_150 (k := 7) (by decide) (by decide) dL_kicks_251 ?_
  refine lv_aload_n M.1 M.2.1 dL_kicks_252 rfl (lv_at hl 0 rfl) ?_
  refine lv_bipush (v := 17) M.1 M.2.1 dL_kicks_253 (by decide) ?_
  obtain ⟨v_56, σ_57, h_58, hr⟩ := cbd hr
  refine x_callI (x_runV M K hB hl.1 [.int 17] (rest := [.int (σ_54 150 7)]) rfl (c_X4_state l Γ 17  σ_54 (v_56, σ_57) h_58) cy_X4_state (x_recv K hB isK_0.2 (ent_4 isK_0.1) rfl) wd_106 ⟨rfl, rfl, Nat.le_of_ble_eq_true rfl, Nat.le_of_ble_eq_true rfl⟩ (Nat.le_of_ble_eq_true rfl) ⟨Nat.zero_le _, Nat.zero_le _⟩ dL_kicks_255) hB (fun H locs hB => ?_)
  replace hB : Bd Γ σ_57 s H locs := hB
  refine lv_icmp_gt (tgt := 277) M.1 M.2.1 dL_kicks_258 (by decide) (fun c_59 => ?_) (fun c_59 => ?_)
  · rw [if_pos c_59] at hr
    exact w_L_kicks_277 M K a3   _ _ _ _  hB (lv_sub hl [] rfl) hr
  · rw [if_neg c_59] at hr
    refine lv_aload_n M.1 M.2.1 dL_kicks_261 rfl (lv_at hl 1 rfl) ?_
    refine lv_iconst (v := 5) M.1 M.2.1 dL_kicks_262 (by decide) ?_
    refine x_ialdL M K hB isA_150 (k := 5) (by decide) (by decide) dL_kicks_263 ?_
    refine lv_aload_n M.1 M.2.1 dL_kicks_264 rfl (lv_at hl 0 rfl) ?_
    refine lv_bipush (v := 16) M.1 M.2.1 dL_kicks_265 (by decide) ?_
    obtain ⟨v_60, σ_61, h_62, hr⟩ := cbd hr
    refine x_callI (x_runV M K hB hl.1 [.int 16] (rest := [.int (σ_57 150 5)]) rfl (c_X4_state l Γ 16  σ_57 (v_60, σ_61) h_62) cy_X4_state (x_recv K hB isK_0.2 (ent_4 isK_0.1) rfl) wd_106 ⟨rfl, rfl, Nat.le_of_ble_eq_true rfl, Nat.le_of_ble_eq_true rfl⟩ (Nat.le_of_ble_eq_true rfl) ⟨Nat.zero_le _, Nat.zero_le _⟩ dL_kicks_267) hB (fun H locs hB => ?_)
    replace hB : Bd Γ σ_61 s H locs := hB
    refine lv_icmp_lt (tgt := 277) M.1 M.2.1 dL_kicks_270 (by decide) (fun c_63 => ?_) (fun c_63 => ?_)
    · rw [if_pos c_63] at hr
      exact w_L_kicks_277 M K a3   _ _ _ _  hB (lv_sub hl [] rfl) hr
    · rw [if_neg c_63] at hr
      refine lv_iconst (v := 1) M.1 M.2.1 dL_kicks_273 (by decide) ?_
      refine lv_goto (tgt := 278) M.1 M.2.1 dL_kicks_274 (by decide) ?_
      exact w_L_kicks_278 M K a3  1 _ _ _ _  hB (lv_sub hl [] rfl) hr
def f_L_kicks_213 (a3 : Int32) (rec_14 : Int32 → Int32 → Int32 → Sg → Option (Int32 × Sg)) (x3 : Int32) (x4 : Int32) (x5 : Int32) (x6 : Int32) (σ : Sg) : Option (Int32 × Sg) :=
if x6 + 7 < 0 ∨ 30 ≤ (x6 + 7).toNatClampNeg then none else
rec_14 x3 (x4 + (σ 151 ((x6 + 7).toNatClampNeg))) (x5 + 1) σ
set_option maxHeartbeats 4000000 in
set_option maxRecDepth 100000 in
theorem w_L_kicks_213 {p : Program} {l : Launch} {e : Env} {s : State} {m : MethodId} {args : Array Value} {below : List Frame} {meth : Method} {c : Code} {Γ : GG} {res : Int32 × Sg} (M : MX RL cL_kicks 8 (some .boolean) p s m args meth c) (K : KK Γ s s.heap) (a3 : Int32) (rec_14 : Int32 → Int32 → Int32 → Sg → Option (Int32 × Sg)) (ih_14 : ∀ (x3 : Int32) (x4 : Int32) (x5 : Int32) (σ : Sg) (H : Heap) (locs : List Loc) (ls : Array Slot) , Bd Γ σ s H locs → lv_has ls 8 [(0, .ref (Γ.1 0)), (1, .ref (Γ.1 150)), (2, .ref (Γ.1 151)), (3, .int x3), (4, .int x4), (5, .int x5)] → rec_14 x3 x4 x5 σ = some res → WI Γ rm_L_kicks p l e s m args below meth c H locs res (F0 m 14 ls [])) (x3 : Int32) (x4 : Int32) (x5 : Int32) (x6 : Int32) (σ : Sg) (H : Heap) (locs : List Loc) (ls : Array Slot)  (hB : Bd Γ σ s H locs) (hl : lv_has ls 8 [(0, .ref (Γ.1 0)), (1, .ref (Γ.1 150)), (2, .ref (Γ.1 151)), (3, .int x3), (4, .int x4), (5, .int x5), (6, .int x6)]) (hr : f_L_kicks_213 a3 rec_14 x3 x4 x5 x6 σ = some res) : WI Γ rm_L_kicks p l e s m args below meth c H locs res (F0 m 213 ls []) := by
  unfold f_L_kicks_213 at hr
  refine lv_iload M.1 M.2.1 dL_kicks_213 (lv_at hl 4 rfl) ?_
  refine lv_aload_n M.1 M.2.1 dL_kicks_215 rfl (lv_at hl 2 rfl) ?_
  refine lv_iload M.1 M.2.1 dL_kicks_216 (lv_at hl 6 rfl) ?_
  refine lv_bipush (v := 7) M.1 M.2.1 dL_kicks_218 (by decide) ?_
  refine lv_iadd M.1 M.2.1 dL_kicks_220 ?_
  obtain ⟨g_52, hr⟩ := gd hr
  refine x_iald M K hB isA_151 g_52 dL_kicks_221 ?_
  refine lv_iadd M.1 M.2.1 dL_kicks_222 ?_
  refine lv_istore (lv' := [(4, .int (x4 + (σ 151 ((x6 + 7).toNatClampNeg)))), (0, .ref (Γ.1 0)), (1, .ref (Γ.1 150)), (2, .ref (Γ.1 151)), (3, .int x3), (5, .int x5), (6, .int x6)]) M.1 M.2.1 dL_kicks_223 hl (by decide) rfl (fun ls hl => ?_)
  refine lv_iinc (v := x5 + 1) (lv' := [(5, .int (x5 + 1)), (4, .int (x4 + (σ 151 ((x6 + 7).toNatClampNeg)))), (0, .ref (Γ.1 0)), (1, .ref (Γ.1 150)), (2, .ref (Γ.1 151)), (3, .int x3), (6, .int x6)]) M.1 M.2.1 dL_kicks_225 hl (k := 5) rfl rfl (by decide) rfl (fun ls hl => ?_)
  refine lv_goto (tgt := 14) M.1 M.2.1 dL_kicks_228 (by decide) ?_
  exact ih_14 x3 (x4 + (σ 151 ((x6 + 7).toNatClampNeg))) (x5 + 1) _ _ _ _  hB (lv_sub hl [2, 3, 4, 5, 1, 0] rfl) hr
def f_L_kicks_196 (a3 : Int32) (rec_14 : Int32 → Int32 → Int32 → Sg → Option (Int32 × Sg)) (x3 : Int32) (x4 : Int32) (x5 : Int32) (x6 : Int32) (s0 : Int32) (s1 : Int32) (s2 : Int32) (σ : Sg) : Option (Int32 × Sg) :=
if s2 < 0 ∨ 30 ≤ s2.toNatClampNeg then none else
wb (st σ 151 (s2.toNatClampNeg) (s1 + s0)) fun σ_44 =>
if x6 + 4 < 0 ∨ 30 ≤ (x6 + 4).toNatClampNeg then none else
wb (st σ_44 151 ((x6 + 4).toNatClampNeg) 0) fun σ_47 =>
if x6 + 6 < 0 ∨ 30 ≤ (x6 + 6).toNatClampNeg then none else
wb (st σ_47 151 ((x6 + 6).toNatClampNeg) 0) fun σ_50 =>
f_L_kicks_213 a3 rec_14 x3 x4 x5 x6 σ_50
set_option maxHeartbeats 4000000 in
set_option maxRecDepth 100000 in
theorem w_L_kicks_196 {p : Program} {l : Launch} {e : Env} {s : State} {m : MethodId} {args : Array Value} {below : List Frame} {meth : Method} {c : Code} {Γ : GG} {res : Int32 × Sg} (M : MX RL cL_kicks 8 (some .boolean) p s m args meth c) (K : KK Γ s s.heap) (a3 : Int32) (rec_14 : Int32 → Int32 → Int32 → Sg → Option (Int32 × Sg)) (ih_14 : ∀ (x3 : Int32) (x4 : Int32) (x5 : Int32) (σ : Sg) (H : Heap) (locs : List Loc) (ls : Array Slot) , Bd Γ σ s H locs → lv_has ls 8 [(0, .ref (Γ.1 0)), (1, .ref (Γ.1 150)), (2, .ref (Γ.1 151)), (3, .int x3), (4, .int x4), (5, .int x5)] → rec_14 x3 x4 x5 σ = some res → WI Γ rm_L_kicks p l e s m args below meth c H locs res (F0 m 14 ls [])) (x3 : Int32) (x4 : Int32) (x5 : Int32) (x6 : Int32) (s0 : Int32) (s1 : Int32) (s2 : Int32) (σ : Sg) (H : Heap) (locs : List Loc) (ls : Array Slot)  (hB : Bd Γ σ s H locs) (hl : lv_has ls 8 [(0, .ref (Γ.1 0)), (1, .ref (Γ.1 150)), (2, .ref (Γ.1 151)), (3, .int x3), (4, .int x4), (5, .int x5), (6, .int x6)]) (hr : f_L_kicks_196 a3 rec_14 x3 x4 x5 x6 s0 s1 s2 σ = some res) : WI Γ rm_L_kicks p l e s m args below meth c H locs res (F0 m 196 ls [.int s0, .int s1, .int s2, .ref (Γ.1 151)]) := by
  unfold f_L_kicks_196 at hr
  refine lv_iadd M.1 M.2.1 dL_kicks_196 ?_
  obtain ⟨g_43, hr⟩ := gd hr
  obtain ⟨σ_44, e_45, hr⟩ := wbd hr
  refine x_iast M K hB isA_151 g_43 dL_kicks_197 (fun H locs hB => ?_)
  rw [← e_45] at hB
  refine lv_aload_n M.1 M.2.1 dL_kicks_198 rfl (lv_at hl 2 rfl) ?_
  refine lv_iload M.1 M.2.1 dL_kicks_199 (lv_at hl 6 rfl) ?_
  refine lv_iconst (v := 4) M.1 M.2.1 dL_kicks_201 (by decide) ?_
  refine lv_iadd M.1 M.2.1 dL_kicks_202 ?_
  refine lv_iconst (v := 0) M.1 M.2.1 dL_kicks_203 (by decide) ?_
  obtain ⟨g_46, hr⟩ := gd hr
  obtain ⟨σ_47, e_48, hr⟩ := wbd hr
  refine x_iast M K hB isA_151 g_46 dL_kicks_204 (fun H locs hB => ?_)
  rw [← e_48] at hB
  refine lv_aload_n M.1 M.2.1 dL_kicks_205 rfl (lv_at hl 2 rfl) ?_
  refine lv_iload M.1 M.2.1 dL_kicks_206 (lv_at hl 6 rfl) ?_
  refine lv_bipush (v := 6) M.1 M.2.1 dL_kicks_208 (by decide) ?_
  refine lv_iadd M.1 M.2.1 dL_kicks_210 ?_
  refine lv_iconst (v := 0) M.1 M.2.1 dL_kicks_211 (by decide) ?_
  obtain ⟨g_49, hr⟩ := gd hr
  obtain ⟨σ_50, e_51, hr⟩ := wbd hr
  refine x_iast M K hB isA_151 g_49 dL_kicks_212 (fun H locs hB => ?_)
  rw [← e_51] at hB
  exact w_L_kicks_213 M K a3 _ ih_14 x3 x4 x5 x6 _ _ _ _  hB (lv_sub hl [0, 1, 2, 3, 4, 5, 6] rfl) hr
def f_L_kicks_177 (a3 : Int32) (rec_14 : Int32 → Int32 → Int32 → Sg → Option (Int32 × Sg)) (x3 : Int32) (x4 : Int32) (x5 : Int32) (x6 : Int32) (x7 : Int32) (s0 : Int32) (s1 : Int32) (σ : Sg) : Option (Int32 × Sg) :=
if s1 < 0 ∨ 30 ≤ s1.toNatClampNeg then none else
wb (st σ 151 (s1.toNatClampNeg) s0) fun σ_39 =>
if x6 + 8 < 0 ∨ 30 ≤ (x6 + 8).toNatClampNeg then none else
if x7 = 0 then
f_L_kicks_196 a3 rec_14 x3 x4 x5 x6 1 (σ_39 151 ((x6 + 8).toNatClampNeg)) (x6 + 8) σ_39
else
f_L_kicks_196 a3 rec_14 x3 x4 x5 x6 0 (σ_39 151 ((x6 + 8).toNatClampNeg)) (x6 + 8) σ_39
set_option maxHeartbeats 4000000 in
set_option maxRecDepth 100000 in
theorem w_L_kicks_177 {p : Program} {l : Launch} {e : Env} {s : State} {m : MethodId} {args : Array Value} {below : List Frame} {meth : Method} {c : Code} {Γ : GG} {res : Int32 × Sg} (M : MX RL cL_kicks 8 (some .boolean) p s m args meth c) (K : KK Γ s s.heap) (a3 : Int32) (rec_14 : Int32 → Int32 → Int32 → Sg → Option (Int32 × Sg)) (ih_14 : ∀ (x3 : Int32) (x4 : Int32) (x5 : Int32) (σ : Sg) (H : Heap) (locs : List Loc) (ls : Array Slot) , Bd Γ σ s H locs → lv_has ls 8 [(0, .ref (Γ.1 0)), (1, .ref (Γ.1 150)), (2, .ref (Γ.1 151)), (3, .int x3), (4, .int x4), (5, .int x5)] → rec_14 x3 x4 x5 σ = some res → WI Γ rm_L_kicks p l e s m args below meth c H locs res (F0 m 14 ls [])) (x3 : Int32) (x4 : Int32) (x5 : Int32) (x6 : Int32) (x7 : Int32) (s0 : Int32) (s1 : Int32) (σ : Sg) (H : Heap) (locs : List Loc) (ls : Array Slot)  (hB : Bd Γ σ s H locs) (hl : lv_has ls 8 [(0, .ref (Γ.1 0)), (1, .ref (Γ.1 150)), (2, .ref (Γ.1 151)), (3, .int x3), (4, .int x4), (5, .int x5), (6, .int x6), (7, .int x7)]) (hr : f_L_kicks_177 a3 rec_14 x3 x4 x5 x6 x7 s0 s1 σ = some res) : WI Γ rm_L_kicks p l e s m args below meth c H locs res (F0 m 177 ls [.int s0, .int s1, .ref (Γ.1 151)]) := by
  unfold f_L_kicks_177 at hr
  obtain ⟨g_38, hr⟩ := gd hr
  obtain ⟨σ_39, e_40, hr⟩ := wbd hr
  refine x_iast M K hB isA_151 g_38 dL_kicks_177 (fun H locs hB => ?_)
  rw [← e_40] at hB
  refine lv_aload_n M.1 M.2.1 dL_kicks_178 rfl (lv_at hl 2 rfl) ?_
  refine lv_iload M.1 M.2.1 dL_kicks_179 (lv_at hl 6 rfl) ?_
  refine lv_bipush (v := 8) M.1 M.2.1 dL_kicks_181 (by decide) ?_
  refine lv_iadd M.1 M.2.1 dL_kicks_183 ?_
  refine lv_dup2_11 M.1 M.2.1 dL_kicks_184 rfl rfl ?_
  obtain ⟨g_41, hr⟩ := gd hr
  refine x_iald M K hB isA_151 g_41 dL_kicks_185 ?_
  refine lv_iload M.1 M.2.1 dL_kicks_186 (lv_at hl 7 rfl) ?_
  refine lv_if_eq (tgt := 195) M.1 M.2.1 dL_kicks_188 (by decide) (fun c_42 => ?_) (fun c_42 => ?_)
  · rw [if_pos c_42] at hr
    refine lv_iconst (v := 1) M.1 M.2.1 dL_kicks_195 (by decide) ?_
    exact w_L_kicks_196 M K a3 _ ih_14 x3 x4 x5 x6 1 (σ_39 151 ((x6 + 8).toNatClampNeg)) (x6 + 8) _ _ _ _  hB (lv_sub hl [0, 1, 2, 3, 4, 5, 6] rfl) hr
  · rw [if_neg c_42] at hr
    refine lv_iconst (v := 0) M.1 M.2.1 dL_kicks_191 (by decide) ?_
    refine lv_goto (tgt := 196) M.1 M.2.1 dL_kicks_192 (by decide) ?_
    exact w_L_kicks_196 M K a3 _ ih_14 x3 x4 x5 x6 0 (σ_39 151 ((x6 + 8).toNatClampNeg)) (x6 + 8) _ _ _ _  hB (lv_sub hl [0, 1, 2, 3, 4, 5, 6] rfl) hr
def f_L_kicks_176 (a3 : Int32) (rec_14 : Int32 → Int32 → Int32 → Sg → Option (Int32 × Sg)) (x3 : Int32) (x4 : Int32) (x5 : Int32) (x6 : Int32) (x7 : Int32) (s0 : Int32) (σ : Sg) : Option (Int32 × Sg) :=
f_L_kicks_177 a3 rec_14 x3 x4 x5 x6 x7 0 s0 σ
set_option maxHeartbeats 4000000 in
set_option maxRecDepth 100000 in
theorem w_L_kicks_176 {p : Program} {l : Launch} {e : Env} {s : State} {m : MethodId} {args : Array Value} {below : List Frame} {meth : Method} {c : Code} {Γ : GG} {res : Int32 × Sg} (M : MX RL cL_kicks 8 (some .boolean) p s m args meth c) (K : KK Γ s s.heap) (a3 : Int32) (rec_14 : Int32 → Int32 → Int32 → Sg → Option (Int32 × Sg)) (ih_14 : ∀ (x3 : Int32) (x4 : Int32) (x5 : Int32) (σ : Sg) (H : Heap) (locs : List Loc) (ls : Array Slot) , Bd Γ σ s H locs → lv_has ls 8 [(0, .ref (Γ.1 0)), (1, .ref (Γ.1 150)), (2, .ref (Γ.1 151)), (3, .int x3), (4, .int x4), (5, .int x5)] → rec_14 x3 x4 x5 σ = some res → WI Γ rm_L_kicks p l e s m args below meth c H locs res (F0 m 14 ls [])) (x3 : Int32) (x4 : Int32) (x5 : Int32) (x6 : Int32) (x7 : Int32) (s0 : Int32) (σ : Sg) (H : Heap) (locs : List Loc) (ls : Array Slot)  (hB : Bd Γ σ s H locs) (hl : lv_has ls 8 [(0, .ref (Γ.1 0)), (1, .ref (Γ.1 150)), (2, .ref (Γ.1 151)), (3, .int x3), (4, .int x4), (5, .int x5), (6, .int x6), (7, .int x7)]) (hr : f_L_kicks_176 a3 rec_14 x3 x4 x5 x6 x7 s0 σ = some res) : WI Γ rm_L_kicks p l e s m args below meth c H locs res (F0 m 176 ls [.int s0, .ref (Γ.1 151)]) := by
  unfold f_L_kicks_176 at hr
  refine lv_iconst (v := 0) M.1 M.2.1 dL_kicks_176 (by decide) ?_
  exact w_L_kicks_177 M K a3 _ ih_14 x3 x4 x5 x6 x7 0 s0 _ _ _ _  hB (lv_sub hl [0, 1, 2, 3, 4, 5, 6, 7] rfl) hr
def f_L_kicks_143 (a3 : Int32) (rec_14 : Int32 → Int32 → Int32 → Sg → Option (Int32 × Sg)) (x3 : Int32) (x4 : Int32) (x5 : Int32) (x6 : Int32) (x7 : Int32) (s0 : Int32) (s1 : Int32) (σ : Sg) : Option (Int32 × Sg) :=
if s1 < 0 ∨ 30 ≤ s1.toNatClampNeg then none else
wb (st σ 151 (s1.toNatClampNeg) s0) fun σ_30 =>
if x7 = 0 then
if x6 + 5 < 0 ∨ 30 ≤ (x6 + 5).toNatClampNeg then none else
cb (f_X4_task_0 x5 6 σ_30) fun v_34 σ_35 =>
if σ_30 151 ((x6 + 5).toNatClampNeg) ≤ v_34 then
f_L_kicks_176 a3 rec_14 x3 x4 x5 x6 x7 (x6 + 7) σ_35
else
f_L_kicks_177 a3 rec_14 x3 x4 x5 x6 x7 1 (x6 + 7) σ_35
else
f_L_kicks_176 a3 rec_14 x3 x4 x5 x6 x7 (x6 + 7) σ_30
set_option maxHeartbeats 4000000 in
set_option maxRecDepth 100000 in
theorem w_L_kicks_143 {p : Program} {l : Launch} {e : Env} {s : State} {m : MethodId} {args : Array Value} {below : List Frame} {meth : Method} {c : Code} {Γ : GG} {res : Int32 × Sg} (M : MX RL cL_kicks 8 (some .boolean) p s m args meth c) (K : KK Γ s s.heap) (a3 : Int32) (rec_14 : Int32 → Int32 → Int32 → Sg → Option (Int32 × Sg)) (ih_14 : ∀ (x3 : Int32) (x4 : Int32) (x5 : Int32) (σ : Sg) (H : Heap) (locs : List Loc) (ls : Array Slot) , Bd Γ σ s H locs → lv_has ls 8 [(0, .ref (Γ.1 0)), (1, .ref (Γ.1 150)), (2, .ref (Γ.1 151)), (3, .int x3), (4, .int x4), (5, .int x5)] → rec_14 x3 x4 x5 σ = some res → WI Γ rm_L_kicks p l e s m args below meth c H locs res (F0 m 14 ls [])) (x3 : Int32) (x4 : Int32) (x5 : Int32) (x6 : Int32) (x7 : Int32) (s0 : Int32) (s1 : Int32) (σ : Sg) (H : Heap) (locs : List Loc) (ls : Array Slot)  (hB : Bd Γ σ s H locs) (hl : lv_has ls 8 [(0, .ref (Γ.1 0)), (1, .ref (Γ.1 150)), (2, .ref (Γ.1 151)), (3, .int x3), (4, .int x4), (5, .int x5), (6, .int x6), (7, .int x7)]) (hr : f_L_kicks_143 a3 rec_14 x3 x4 x5 x6 x7 s0 s1 σ = some res) : WI Γ rm_L_kicks p l e s m args below meth c H locs res (F0 m 143 ls [.int s0, .int s1, .ref (Γ.1 151)]) := by
  unfold f_L_kicks_143 at hr
  obtain ⟨g_29, hr⟩ := gd hr
  obtain ⟨σ_30, e_31, hr⟩ := wbd hr
  refine x_iast M K hB isA_151 g_29 dL_kicks_143 (fun H locs hB => ?_)
  rw [← e_31] at hB
  refine lv_aload_n M.1 M.2.1 dL_kicks_144 rfl (lv_at hl 2 rfl) ?_
  refine lv_iload M.1 M.2.1 dL_kicks_145 (lv_at hl 6 rfl) ?_
  refine lv_bipush (v := 7) M.1 M.2.1 dL_kicks_147 (by decide) ?_
  refine lv_iadd M.1 M.2.1 dL_kicks_149 ?_
  refine lv_iload M.1 M.2.1 dL_kicks_150 (lv_at hl 7 rfl) ?_
  refine lv_if_ne (tgt := 176) M.1 M.2.1 dL_kicks_152 (by decide) (fun c_32 => ?_) (fun c_32 => ?_)
  · rw [if_neg c_32] at hr
    exact w_L_kicks_176 M K a3 _ ih_14 x3 x4 x5 x6 x7 (x6 + 7) _ _ _ _  hB (lv_sub hl [0, 1, 2, 3, 4, 5, 6, 7] rfl) hr
  · rw [if_pos c_32] at hr
    refine lv_aload_n M.1 M.2.1 dL_kicks_155 rfl (lv_at hl 2 rfl) ?_
    refine lv_iload M.1 M.2.1 dL_kicks_156 (lv_at hl 6 rfl) ?_
    refine lv_iconst (v := 5) M.1 M.2.1 dL_kicks_158 (by decide) ?_
    refine lv_iadd M.1 M.2.1 dL_kicks_159 ?_
    obtain ⟨g_33, hr⟩ := gd hr
    refine x_iald M K hB isA_151 g_33 dL_kicks_160 ?_
    refine lv_aload_n M.1 M.2.1 dL_kicks_161 rfl (lv_at hl 0 rfl) ?_
    refine lv_iload M.1 M.2.1 dL_kicks_162 (lv_at hl 5 rfl) ?_
    refine lv_bipush (v := 6) M.1 M.2.1 dL_kicks_164 (by decide) ?_
    obtain ⟨v_34, σ_35, h_36, hr⟩ := cbd hr
    refine x_callI (x_runV M K hB hl.1 [.int x5, .int 6] (rest := [.int (σ_30 151 ((x6 + 5).toNatClampNeg)), .int (x6 + 7), .ref (Γ.1 151)]) rfl (c_X4_task l Γ x5 6  σ_30 (v_34, σ_35) h_36) cy_X4_task (x_recv K hB isK_0.2 (ent_4 isK_0.1) rfl) wd_105 ⟨rfl, rfl, Nat.le_of_ble_eq_true rfl, Nat.le_of_ble_eq_true rfl⟩ (Nat.le_of_ble_eq_true rfl) ⟨Nat.zero_le _, Nat.zero_le _⟩ dL_kicks_166) hB (fun H locs hB => ?_)
    replace hB : Bd Γ σ_35 s H locs := hB
    refine lv_icmp_le (tgt := 176) M.1 M.2.1 dL_kicks_169 (by decide) (fun c_37 => ?_) (fun c_37 => ?_)
    · rw [if_pos c_37] at hr
      exact w_L_kicks_176 M K a3 _ ih_14 x3 x4 x5 x6 x7 (x6 + 7) _ _ _ _  hB (lv_sub hl [0, 1, 2, 3, 4, 5, 6, 7] rfl) hr
    · rw [if_neg c_37] at hr
      refine lv_iconst (v := 1) M.1 M.2.1 dL_kicks_172 (by decide) ?_
      refine lv_goto (tgt := 177) M.1 M.2.1 dL_kicks_173 (by decide) ?_
      exact w_L_kicks_177 M K a3 _ ih_14 x3 x4 x5 x6 x7 1 (x6 + 7) _ _ _ _  hB (lv_sub hl [0, 1, 2, 3, 4, 5, 6, 7] rfl) hr
def f_L_kicks_99 (a3 : Int32) (rec_14 : Int32 → Int32 → Int32 → Sg → Option (Int32 × Sg)) (x3 : Int32) (x4 : Int32) (x5 : Int32) (x6 : Int32) (s0 : Int32) (σ : Sg) : Option (Int32 × Sg) :=
if s0 = 0 then
if x6 + 5 < 0 ∨ 30 ≤ (x6 + 5).toNatClampNeg then none else
f_L_kicks_143 a3 rec_14 x3 x4 x5 x6 s0 ((σ 151 ((x6 + 5).toNatClampNeg)) + 1) (x6 + 5) σ
else
if x6 + 5 < 0 ∨ 30 ≤ (x6 + 5).toNatClampNeg then none else
if σ 151 ((x6 + 5).toNatClampNeg) ≤ 0 then
f_L_kicks_143 a3 rec_14 x3 x4 x5 x6 s0 0 (x6 + 5) σ
else
if x6 + 5 < 0 ∨ 30 ≤ (x6 + 5).toNatClampNeg then none else
f_L_kicks_143 a3 rec_14 x3 x4 x5 x6 s0 ((σ 151 ((x6 + 5).toNatClampNeg)) - 1) (x6 + 5) σ
set_option maxHeartbeats 4000000 in
set_option maxRecDepth 100000 in
theorem w_L_kicks_99 {p : Program} {l : Launch} {e : Env} {s : State} {m : MethodId} {args : Array Value} {below : List Frame} {meth : Method} {c : Code} {Γ : GG} {res : Int32 × Sg} (M : MX RL cL_kicks 8 (some .boolean) p s m args meth c) (K : KK Γ s s.heap) (a3 : Int32) (rec_14 : Int32 → Int32 → Int32 → Sg → Option (Int32 × Sg)) (ih_14 : ∀ (x3 : Int32) (x4 : Int32) (x5 : Int32) (σ : Sg) (H : Heap) (locs : List Loc) (ls : Array Slot) , Bd Γ σ s H locs → lv_has ls 8 [(0, .ref (Γ.1 0)), (1, .ref (Γ.1 150)), (2, .ref (Γ.1 151)), (3, .int x3), (4, .int x4), (5, .int x5)] → rec_14 x3 x4 x5 σ = some res → WI Γ rm_L_kicks p l e s m args below meth c H locs res (F0 m 14 ls [])) (x3 : Int32) (x4 : Int32) (x5 : Int32) (x6 : Int32) (s0 : Int32) (σ : Sg) (H : Heap) (locs : List Loc) (ls : Array Slot)  (hB : Bd Γ σ s H locs) (hl : lv_has ls 8 [(0, .ref (Γ.1 0)), (1, .ref (Γ.1 150)), (2, .ref (Γ.1 151)), (3, .int x3), (4, .int x4), (5, .int x5), (6, .int x6)]) (hr : f_L_kicks_99 a3 rec_14 x3 x4 x5 x6 s0 σ = some res) : WI Γ rm_L_kicks p l e s m args below meth c H locs res (F0 m 99 ls [.int s0]) := by
  unfold f_L_kicks_99 at hr
  refine lv_istore (lv' := [(7, .int s0), (0, .ref (Γ.1 0)), (1, .ref (Γ.1 150)), (2, .ref (Γ.1 151)), (3, .int x3), (4, .int x4), (5, .int x5), (6, .int x6)]) M.1 M.2.1 dL_kicks_99 hl (by decide) rfl (fun ls hl => ?_)
  refine lv_aload_n M.1 M.2.1 dL_kicks_101 rfl (lv_at hl 3 rfl) ?_
  refine lv_iload M.1 M.2.1 dL_kicks_102 (lv_at hl 7 rfl) ?_
  refine lv_iconst (v := 5) M.1 M.2.1 dL_kicks_104 (by decide) ?_
  refine lv_iadd M.1 M.2.1 dL_kicks_105 ?_
  refine lv_iload M.1 M.2.1 dL_kicks_106 (lv_at hl 0 rfl) ?_
  refine lv_if_eq (tgt := 135) M.1 M.2.1 dL_kicks_108 (by decide) (fun c_24 => ?_) (fun c_24 => ?_)
  · rw [if_pos c_24] at hr
    refine lv_aload_n M.1 M.2.1 dL_kicks_135 rfl (lv_at hl 3 rfl) ?_
    refine lv_iload M.1 M.2.1 dL_kicks_136 (lv_at hl 7 rfl) ?_
    refine lv_iconst (v := 5) M.1 M.2.1 dL_kicks_138 (by decide) ?_
    refine lv_iadd M.1 M.2.1 dL_kicks_139 ?_
    obtain ⟨g_25, hr⟩ := gd hr
    refine x_iald M K hB isA_151 g_25 dL_kicks_140 ?_
    refine lv_iconst (v := 1) M.1 M.2.1 dL_kicks_141 (by decide) ?_
    refine lv_iadd M.1 M.2.1 dL_kicks_142 ?_
    exact w_L_kicks_143 M K a3 _ ih_14 x3 x4 x5 x6 s0 ((σ 151 ((x6 + 5).toNatClampNeg)) + 1) (x6 + 5) _ _ _ _  hB (lv_sub hl [1, 2, 3, 4, 5, 6, 7, 0] rfl) hr
  · rw [if_neg c_24] at hr
    refine lv_aload_n M.1 M.2.1 dL_kicks_111 rfl (lv_at hl 3 rfl) ?_
    refine lv_iload M.1 M.2.1 dL_kicks_112 (lv_at hl 7 rfl) ?_
    refine lv_iconst (v := 5) M.1 M.2.1 dL_kicks_114 (by decide) ?_
    refine lv_iadd M.1 M.2.1 dL_kicks_115 ?_
    obtain ⟨g_26, hr⟩ := gd hr
    refine x_iald M K hB isA_151 g_26 dL_kicks_116 ?_
    refine lv_if_le (tgt := 131) M.1 M.2.1 dL_kicks_117 (by decide) (fun c_27 => ?_) (fun c_27 => ?_)
    · rw [if_pos c_27] at hr
      refine lv_iconst (v := 0) M.1 M.2.1 dL_kicks_131 (by decide) ?_
      refine lv_goto (tgt := 143) M.1 M.2.1 dL_kicks_132 (by decide) ?_
      exact w_L_kicks_143 M K a3 _ ih_14 x3 x4 x5 x6 s0 0 (x6 + 5) _ _ _ _  hB (lv_sub hl [1, 2, 3, 4, 5, 6, 7, 0] rfl) hr
    · rw [if_neg c_27] at hr
      refine lv_aload_n M.1 M.2.1 dL_kicks_120 rfl (lv_at hl 3 rfl) ?_
      refine lv_iload M.1 M.2.1 dL_kicks_121 (lv_at hl 7 rfl) ?_
      refine lv_iconst (v := 5) M.1 M.2.1 dL_kicks_123 (by decide) ?_
      refine lv_iadd M.1 M.2.1 dL_kicks_124 ?_
      obtain ⟨g_28, hr⟩ := gd hr
      refine x_iald M K hB isA_151 g_28 dL_kicks_125 ?_
      refine lv_iconst (v := 1) M.1 M.2.1 dL_kicks_126 (by decide) ?_
      refine lv_isub M.1 M.2.1 dL_kicks_127 ?_
      refine lv_goto (tgt := 143) M.1 M.2.1 dL_kicks_128 (by decide) ?_
      exact w_L_kicks_143 M K a3 _ ih_14 x3 x4 x5 x6 s0 ((σ 151 ((x6 + 5).toNatClampNeg)) - 1) (x6 + 5) _ _ _ _  hB (lv_sub hl [1, 2, 3, 4, 5, 6, 7, 0] rfl) hr
def f_L_kicks_98 (a3 : Int32) (rec_14 : Int32 → Int32 → Int32 → Sg → Option (Int32 × Sg)) (x3 : Int32) (x4 : Int32) (x5 : Int32) (x6 : Int32) (σ : Sg) : Option (Int32 × Sg) :=
f_L_kicks_99 a3 rec_14 x3 x4 x5 x6 0 σ
set_option maxHeartbeats 4000000 in
set_option maxRecDepth 100000 in
theorem w_L_kicks_98 {p : Program} {l : Launch} {e : Env} {s : State} {m : MethodId} {args : Array Value} {below : List Frame} {meth : Method} {c : Code} {Γ : GG} {res : Int32 × Sg} (M : MX RL cL_kicks 8 (some .boolean) p s m args meth c) (K : KK Γ s s.heap) (a3 : Int32) (rec_14 : Int32 → Int32 → Int32 → Sg → Option (Int32 × Sg)) (ih_14 : ∀ (x3 : Int32) (x4 : Int32) (x5 : Int32) (σ : Sg) (H : Heap) (locs : List Loc) (ls : Array Slot) , Bd Γ σ s H locs → lv_has ls 8 [(0, .ref (Γ.1 0)), (1, .ref (Γ.1 150)), (2, .ref (Γ.1 151)), (3, .int x3), (4, .int x4), (5, .int x5)] → rec_14 x3 x4 x5 σ = some res → WI Γ rm_L_kicks p l e s m args below meth c H locs res (F0 m 14 ls [])) (x3 : Int32) (x4 : Int32) (x5 : Int32) (x6 : Int32) (σ : Sg) (H : Heap) (locs : List Loc) (ls : Array Slot)  (hB : Bd Γ σ s H locs) (hl : lv_has ls 8 [(0, .ref (Γ.1 0)), (1, .ref (Γ.1 150)), (2, .ref (Γ.1 151)), (3, .int x3), (4, .int x4), (5, .int x5), (6, .int x6)]) (hr : f_L_kicks_98 a3 rec_14 x3 x4 x5 x6 σ = some res) : WI Γ rm_L_kicks p l e s m args below meth c H locs res (F0 m 98 ls []) := by
  unfold f_L_kicks_98 at hr
  refine lv_iconst (v := 0) M.1 M.2.1 dL_kicks_98 (by decide) ?_
  exact w_L_kicks_99 M K a3 _ ih_14 x3 x4 x5 x6 0 _ _ _ _  hB (lv_sub hl [0, 1, 2, 3, 4, 5, 6] rfl) hr
def f_L_kicks_14 (a3 : Int32)  : Nat → Int32 → Int32 → Int32 → Sg → Option (Int32 × Sg)
  | 0, _, _, _, _ => none
  | f + 1, x3, x4, x5, σ => if x3 ≤ x5 then
if x4 ≤ 0 then
f_L_kicks_246 a3  0 (σ 150 7) 7 σ
else
f_L_kicks_246 a3  1 (σ 150 7) 7 σ
else
if (10 * x5) + 7 < 0 ∨ 30 ≤ ((10 * x5) + 7).toNatClampNeg then none else
if σ 151 (((10 * x5) + 7).toNatClampNeg) = 0 then
cb (f_X4_task_0 x5 3 σ) fun v_7 σ_8 =>
if v_7 = 0 then none else
if (σ 150 6) - (σ 150 6) / v_7 * v_7 = 0 then
if (10 * x5) + 4 < 0 ∨ 30 ≤ ((10 * x5) + 4).toNatClampNeg then none else
cb (f_X4_task_0 x5 4 σ_8) fun v_13 σ_14 =>
if σ_8 151 (((10 * x5) + 4).toNatClampNeg) < v_13 then
f_L_kicks_98 a3 (f_L_kicks_14 a3  f) x3 x4 x5 (10 * x5) σ_14
else
if (10 * x5) + 4 < 0 ∨ 30 ≤ ((10 * x5) + 4).toNatClampNeg then none else
cb (f_X4_task_0 x5 5 σ_14) fun v_18 σ_19 =>
if v_18 < σ_14 151 (((10 * x5) + 4).toNatClampNeg) then
f_L_kicks_98 a3 (f_L_kicks_14 a3  f) x3 x4 x5 (10 * x5) σ_19
else
if (10 * x5) + 6 < 0 ∨ 30 ≤ ((10 * x5) + 6).toNatClampNeg then none else
if σ_19 151 (((10 * x5) + 6).toNatClampNeg) = 0 then
f_L_kicks_99 a3 (f_L_kicks_14 a3  f) x3 x4 x5 (10 * x5) 1 σ_19
else
f_L_kicks_98 a3 (f_L_kicks_14 a3  f) x3 x4 x5 (10 * x5) σ_19
else
f_L_kicks_213 a3 (f_L_kicks_14 a3  f) x3 x4 x5 (10 * x5) σ_8
else
f_L_kicks_213 a3 (f_L_kicks_14 a3  f) x3 x4 x5 (10 * x5) σ
set_option maxHeartbeats 4000000 in
set_option maxRecDepth 100000 in
theorem w_L_kicks_14 {p : Program} {l : Launch} {e : Env} {s : State} {m : MethodId} {args : Array Value} {below : List Frame} {meth : Method} {c : Code} {Γ : GG} {res : Int32 × Sg} (M : MX RL cL_kicks 8 (some .boolean) p s m args meth c) (K : KK Γ s s.heap) (a3 : Int32) : ∀ (f : Nat) (x3 : Int32) (x4 : Int32) (x5 : Int32) (σ : Sg) (H : Heap) (locs : List Loc) (ls : Array Slot)  (hB : Bd Γ σ s H locs) (hl : lv_has ls 8 [(0, .ref (Γ.1 0)), (1, .ref (Γ.1 150)), (2, .ref (Γ.1 151)), (3, .int x3), (4, .int x4), (5, .int x5)]) (hr : f_L_kicks_14 a3  f x3 x4 x5 σ = some res), WI Γ rm_L_kicks p l e s m args below meth c H locs res (F0 m 14 ls []) := by
  intro f
  induction f with
  | zero => intros; rename_i hr; exact absurd hr (by rw [f_L_kicks_14]; exact fun h => by cases h)
  | succ f ih_14 =>
    intro x3 x4 x5 σ H locs ls  hB hl hr
    rw [f_L_kicks_14] at hr
    refine lv_iload M.1 M.2.1 dL_kicks_14 (lv_at hl 5 rfl) ?_
    refine lv_iload_n M.1 M.2.1 dL_kicks_16 rfl (lv_at hl 3 rfl) ?_
    refine lv_icmp_ge (tgt := 231) M.1 M.2.1 dL_kicks_17 (by decide) (fun c_3 => ?_) (fun c_3 => ?_)
    · rw [if_pos c_3] at hr
      refine lv_aload_n M.1 M.2.1 dL_kicks_231 rfl (lv_at hl 1 rfl) ?_
      refine lv_bipush (v := 7) M.1 M.2.1 dL_kicks_232 (by decide) ?_
      refine lv_dup2_11 M.1 M.2.1 dL_kicks_234 rfl rfl ?_
      refine x_ialdL M K hB isA_150 (k := 7) (by decide) (by decide) dL_kicks_235 ?_
      refine lv_iload M.1 M.2.1 dL_kicks_236 (lv_at hl 4 rfl) ?_
      refine lv_if_le (tgt := 245) M.1 M.2.1 dL_kicks_238 (by decide) (fun c_4 => ?_) (fun c_4 => ?_)
      · rw [if_pos c_4] at hr
        refine lv_iconst (v := 0) M.1 M.2.1 dL_kicks_245 (by decide) ?_
        exact w_L_kicks_246 M K a3  0 (σ 150 7) 7 _ _ _ _  hB (lv_sub hl [0, 1] rfl) hr
      · rw [if_neg c_4] at hr
        refine lv_iconst (v := 1) M.1 M.2.1 dL_kicks_241 (by decide) ?_
        refine lv_goto (tgt := 246) M.1 M.2.1 dL_kicks_242 (by decide) ?_
        exact w_L_kicks_246 M K a3  1 (σ 150 7) 7 _ _ _ _  hB (lv_sub hl [0, 1] rfl) hr
    · rw [if_neg c_3] at hr
      refine lv_bipush (v := 10) M.1 M.2.1 dL_kicks_20 (by decide) ?_
      refine lv_iload M.1 M.2.1 dL_kicks_22 (lv_at hl 5 rfl) ?_
      refine lv_imul M.1 M.2.1 dL_kicks_24 ?_
      refine lv_istore (lv' := [(6, .int (10 * x5)), (0, .ref (Γ.1 0)), (1, .ref (Γ.1 150)), (2, .ref (Γ.1 151)), (3, .int x3), (4, .int x4), (5, .int x5)]) M.1 M.2.1 dL_kicks_25 hl (by decide) rfl (fun ls hl => ?_)
      refine lv_aload_n M.1 M.2.1 dL_kicks_27 rfl (lv_at hl 3 rfl) ?_
      refine lv_iload M.1 M.2.1 dL_kicks_28 (lv_at hl 0 rfl) ?_
      refine lv_bipush (v := 7) M.1 M.2.1 dL_kicks_30 (by decide) ?_
      refine lv_iadd M.1 M.2.1 dL_kicks_32 ?_
      obtain ⟨g_5, hr⟩ := gd hr
      refine x_iald M K hB isA_151 g_5 dL_kicks_33 ?_
      refine lv_if_ne (tgt := 213) M.1 M.2.1 dL_kicks_34 (by decide) (fun c_6 => ?_) (fun c_6 => ?_)
      · rw [if_neg c_6] at hr
        exact w_L_kicks_213 M K a3 _ ih_14 x3 x4 x5 (10 * x5) _ _ _ _  hB (lv_sub hl [1, 2, 3, 4, 5, 6, 0] rfl) hr
      · rw [if_pos c_6] at hr
        refine lv_aload_n M.1 M.2.1 dL_kicks_37 rfl (lv_at hl 2 rfl) ?_
        refine lv_bipush (v := 6) M.1 M.2.1 dL_kicks_38 (by decide) ?_
        refine x_ialdL M K hB isA_150 (k := 6) (by decide) (by decide) dL_kicks_40 ?_
        refine lv_aload_n M.1 M.2.1 dL_kicks_41 rfl (lv_at hl 1 rfl) ?_
        refine lv_iload M.1 M.2.1 dL_kicks_42 (lv_at hl 6 rfl) ?_
        refine lv_iconst (v := 3) M.1 M.2.1 dL_kicks_44 (by decide) ?_
        obtain ⟨v_7, σ_8, h_9, hr⟩ := cbd hr
        refine x_callI (x_runV M K hB hl.1 [.int x5, .int 3] (rest := [.int (σ 150 6)]) rfl (c_X4_task l Γ x5 3  σ (v_7, σ_8) h_9) cy_X4_task (x_recv K hB isK_0.2 (ent_4 isK_0.1) rfl) wd_105 ⟨rfl, rfl, Nat.le_of_ble_eq_true rfl, Nat.le_of_ble_eq_true rfl⟩ (Nat.le_of_ble_eq_true rfl) ⟨Nat.zero_le _, Nat.zero_le _⟩ dL_kicks_45) hB (fun H locs hB => ?_)
        replace hB : Bd Γ σ_8 s H locs := hB
        obtain ⟨g_10, hr⟩ := gd hr
        refine lv_irem M.1 M.2.1 dL_kicks_48 g_10 ?_
        refine lv_if_ne (tgt := 213) M.1 M.2.1 dL_kicks_49 (by decide) (fun c_11 => ?_) (fun c_11 => ?_)
        · rw [if_neg c_11] at hr
          exact w_L_kicks_213 M K a3 _ ih_14 x3 x4 x5 (10 * x5) _ _ _ _  hB (lv_sub hl [1, 2, 3, 4, 5, 6, 0] rfl) hr
        · rw [if_pos c_11] at hr
          refine lv_aload_n M.1 M.2.1 dL_kicks_52 rfl (lv_at hl 3 rfl) ?_
          refine lv_iload M.1 M.2.1 dL_kicks_53 (lv_at hl 0 rfl) ?_
          refine lv_iconst (v := 4) M.1 M.2.1 dL_kicks_55 (by decide) ?_
          refine lv_iadd M.1 M.2.1 dL_kicks_56 ?_
          obtain ⟨g_12, hr⟩ := gd hr
          refine x_iald M K hB isA_151 g_12 dL_kicks_57 ?_
          refine lv_aload_n M.1 M.2.1 dL_kicks_58 rfl (lv_at hl 1 rfl) ?_
          refine lv_iload M.1 M.2.1 dL_kicks_59 (lv_at hl 6 rfl) ?_
          refine lv_iconst (v := 4) M.1 M.2.1 dL_kicks_61 (by decide) ?_
          obtain ⟨v_13, σ_14, h_15, hr⟩ := cbd hr
          refine x_callI (x_runV M K hB hl.1 [.int x5, .int 4] (rest := [.int (σ_8 151 (((10 * x5) + 4).toNatClampNeg))]) rfl (c_X4_task l Γ x5 4  σ_8 (v_13, σ_14) h_15) cy_X4_task (x_recv K hB isK_0.2 (ent_4 isK_0.1) rfl) wd_105 ⟨rfl, rfl, Nat.le_of_ble_eq_true rfl, Nat.le_of_ble_eq_true rfl⟩ (Nat.le_of_ble_eq_true rfl) ⟨Nat.zero_le _, Nat.zero_le _⟩ dL_kicks_62) hB (fun H locs hB => ?_)
          replace hB : Bd Γ σ_14 s H locs := hB
          refine lv_icmp_lt (tgt := 98) M.1 M.2.1 dL_kicks_65 (by decide) (fun c_16 => ?_) (fun c_16 => ?_)
          · rw [if_pos c_16] at hr
            exact w_L_kicks_98 M K a3 _ ih_14 x3 x4 x5 (10 * x5) _ _ _ _  hB (lv_sub hl [1, 2, 3, 4, 5, 6, 0] rfl) hr
          · rw [if_neg c_16] at hr
            refine lv_aload_n M.1 M.2.1 dL_kicks_68 rfl (lv_at hl 3 rfl) ?_
            refine lv_iload M.1 M.2.1 dL_kicks_69 (lv_at hl 0 rfl) ?_
            refine lv_iconst (v := 4) M.1 M.2.1 dL_kicks_71 (by decide) ?_
            refine lv_iadd M.1 M.2.1 dL_kicks_72 ?_
            obtain ⟨g_17, hr⟩ := gd hr
            refine x_iald M K hB isA_151 g_17 dL_kicks_73 ?_
            refine lv_aload_n M.1 M.2.1 dL_kicks_74 rfl (lv_at hl 1 rfl) ?_
            refine lv_iload M.1 M.2.1 dL_kicks_75 (lv_at hl 6 rfl) ?_
            refine lv_iconst (v := 5) M.1 M.2.1 dL_kicks_77 (by decide) ?_
            obtain ⟨v_18, σ_19, h_20, hr⟩ := cbd hr
            refine x_callI (x_runV M K hB hl.1 [.int x5, .int 5] (rest := [.int (σ_14 151 (((10 * x5) + 4).toNatClampNeg))]) rfl (c_X4_task l Γ x5 5  σ_14 (v_18, σ_19) h_20) cy_X4_task (x_recv K hB isK_0.2 (ent_4 isK_0.1) rfl) wd_105 ⟨rfl, rfl, Nat.le_of_ble_eq_true rfl, Nat.le_of_ble_eq_true rfl⟩ (Nat.le_of_ble_eq_true rfl) ⟨Nat.zero_le _, Nat.zero_le _⟩ dL_kicks_78) hB (fun H locs hB => ?_)
            replace hB : Bd Γ σ_19 s H locs := hB
            refine lv_icmp_gt (tgt := 98) M.1 M.2.1 dL_kicks_81 (by decide) (fun c_21 => ?_) (fun c_21 => ?_)
            · rw [if_pos c_21] at hr
              exact w_L_kicks_98 M K a3 _ ih_14 x3 x4 x5 (10 * x5) _ _ _ _  hB (lv_sub hl [1, 2, 3, 4, 5, 6, 0] rfl) hr
            · rw [if_neg c_21] at hr
              refine lv_aload_n M.1 M.2.1 dL_kicks_84 rfl (lv_at hl 3 rfl) ?_
              refine lv_iload M.1 M.2.1 dL_kicks_85 (lv_at hl 0 rfl) ?_
              refine lv_bipush (v := 6) M.1 M.2.1 dL_kicks_87 (by decide) ?_
              refine lv_iadd M.1 M.2.1 dL_kicks_89 ?_
              obtain ⟨g_22, hr⟩ := gd hr
              refine x_iald M K hB isA_151 g_22 dL_kicks_90 ?_
              refine lv_if_ne (tgt := 98) M.1 M.2.1 dL_kicks_91 (by decide) (fun c_23 => ?_) (fun c_23 => ?_)
              · rw [if_neg c_23] at hr
                exact w_L_kicks_98 M K a3 _ ih_14 x3 x4 x5 (10 * x5) _ _ _ _  hB (lv_sub hl [1, 2, 3, 4, 5, 6, 0] rfl) hr
              · rw [if_pos c_23] at hr
                refine lv_iconst (v := 1) M.1 M.2.1 dL_kicks_94 (by decide) ?_
                refine lv_goto (tgt := 99) M.1 M.2.1 dL_kicks_95 (by decide) ?_
                exact w_L_kicks_99 M K a3 _ ih_14 x3 x4 x5 (10 * x5) 1 _ _ _ _  hB (lv_sub hl [1, 2, 3, 4, 5, 6, 0] rfl) hr
def f_L_kicks_0 (a3 : Int32)   (σ : Sg) : Option (Int32 × Sg) :=
wb (st σ 150 6 ((σ 150 6) + 1)) fun σ_1 =>
f_L_kicks_14 a3  FU a3 0 0 σ_1
set_option maxHeartbeats 4000000 in
set_option maxRecDepth 100000 in
theorem w_L_kicks_0 {p : Program} {l : Launch} {e : Env} {s : State} {m : MethodId} {args : Array Value} {below : List Frame} {meth : Method} {c : Code} {Γ : GG} {res : Int32 × Sg} (M : MX RL cL_kicks 8 (some .boolean) p s m args meth c) (K : KK Γ s s.heap) (a3 : Int32)  (σ : Sg) (H : Heap) (locs : List Loc) (ls : Array Slot)  (hB : Bd Γ σ s H locs) (hl : lv_has ls 8 [(0, .ref (Γ.1 0)), (1, .ref (Γ.1 150)), (2, .ref (Γ.1 151)), (3, .int a3)]) (hr : f_L_kicks_0 a3   σ = some res) : WI Γ rm_L_kicks p l e s m args below meth c H locs res (F0 m 0 ls []) := by
  unfold f_L_kicks_0 at hr
  refine lv_aload_n M.1 M.2.1 dL_kicks_0 rfl (lv_at hl 1 rfl) ?_
  refine lv_bipush (v := 6) M.1 M.2.1 dL_kicks_1 (by decide) ?_
  refine lv_dup2_11 M.1 M.2.1 dL_kicks_3 rfl rfl ?_
  refine x_ialdL M K hB isA_150 (k := 6) (by decide) (by decide) dL_kicks_4 ?_
  refine lv_iconst (v := 1) M.1 M.2.1 dL_kicks_5 (by decide) ?_
  refine lv_iadd M.1 M.2.1 dL_kicks_6 ?_
  obtain ⟨σ_1, e_2, hr⟩ := wbd hr
  refine x_iastL M K hB isA_150 (k := 6) (by decide) (by decide) dL_kicks_7 (fun H locs hB => ?_)
  rw [← e_2] at hB
  refine lv_iconst (v := 0) M.1 M.2.1 dL_kicks_8 (by decide) ?_
  refine lv_istore (lv' := [(4, .int 0), (0, .ref (Γ.1 0)), (1, .ref (Γ.1 150)), (2, .ref (Γ.1 151)), (3, .int a3)]) M.1 M.2.1 dL_kicks_9 hl (by decide) rfl (fun ls hl => ?_)
  refine lv_iconst (v := 0) M.1 M.2.1 dL_kicks_11 (by decide) ?_
  refine lv_istore (lv' := [(5, .int 0), (4, .int 0), (0, .ref (Γ.1 0)), (1, .ref (Γ.1 150)), (2, .ref (Γ.1 151)), (3, .int a3)]) M.1 M.2.1 dL_kicks_12 hl (by decide) rfl (fun ls hl => ?_)
  exact w_L_kicks_14 M K a3  FU a3 0 0 _ _ _ _  hB (lv_sub hl [2, 3, 4, 5, 1, 0] rfl) hr
theorem c_L_kicks (l : Launch) (Γ : GG) (a3 : Int32)  (σ : Sg) (res : Int32 × Sg) (hr : f_L_kicks_0 a3 σ = some res) : Met l yL_kicks (Cond.code yL_kicks cL_kicks 8 (some .boolean) :: gtb) rm_L_kicks (va_Pc [.ref (Γ.1 0), .ref (Γ.1 150), .ref (Γ.1 151), .int a3] (GI Γ σ)) (QI Γ res) 0 0 (AD Γ) :=
  x_metI (by decide) [.ref (Γ.1 0), .ref (Γ.1 150), .ref (Γ.1 151), .int a3] (Nat.le_of_ble_eq_true rfl) (fun p e s m args below meth c M K ls hl hB => w_L_kicks_0 M K a3 σ _ _ ls hB hl hr)
abbrev rm_L_tick : Room := { frames := 4, cells := 0, slots := 0, locals := 94 }
def f_L_tick_220 (a4 : Int32) (a5 : Int32)   (σ : Sg) : Option (Int32 × Sg) :=
some (0, σ)
set_option maxHeartbeats 4000000 in
set_option maxRecDepth 100000 in
theorem w_L_tick_220 {p : Program} {l : Launch} {e : Env} {s : State} {m : MethodId} {args : Array Value} {below : List Frame} {meth : Method} {c : Code} {Γ : GG} {res : Int32 × Sg} (M : MX RL cL_tick 7 none p s m args meth c) (K : KK Γ s s.heap) (a4 : Int32) (a5 : Int32)  (σ : Sg) (H : Heap) (locs : List Loc) (ls : Array Slot)  (hB : Bd Γ σ s H locs) (hl : lv_has ls 7 []) (hr : f_L_tick_220 a4 a5   σ = some res) : WV Γ rm_L_tick p l e s m args below meth c H locs res (F0 m 220 ls []) := by
  unfold f_L_tick_220 at hr
  exact x_vret M hB (Option.some.inj hr) dL_tick_220
def f_L_tick_219 (a4 : Int32) (a5 : Int32)  (s0 : Int32) (s1 : Int32) (σ : Sg) : Option (Int32 × Sg) :=
if s1 < 0 ∨ 14 ≤ s1.toNatClampNeg then none else
wb (st σ 150 (s1.toNatClampNeg) s0) fun σ_55 =>
f_L_tick_220 a4 a5   σ_55
set_option maxHeartbeats 4000000 in
set_option maxRecDepth 100000 in
theorem w_L_tick_219 {p : Program} {l : Launch} {e : Env} {s : State} {m : MethodId} {args : Array Value} {below : List Frame} {meth : Method} {c : Code} {Γ : GG} {res : Int32 × Sg} (M : MX RL cL_tick 7 none p s m args meth c) (K : KK Γ s s.heap) (a4 : Int32) (a5 : Int32) (s0 : Int32) (s1 : Int32) (σ : Sg) (H : Heap) (locs : List Loc) (ls : Array Slot)  (hB : Bd Γ σ s H locs) (hl : lv_has ls 7 []) (hr : f_L_tick_219 a4 a5  s0 s1 σ = some res) : WV Γ rm_L_tick p l e s m args below meth c H locs res (F0 m 219 ls [.int s0, .int s1, .ref (Γ.1 150)]) := by
  unfold f_L_tick_219 at hr
  obtain ⟨g_54, hr⟩ := gd hr
  obtain ⟨σ_55, e_56, hr⟩ := wbd hr
  refine x_iast M K hB isA_150 g_54 dL_tick_219 (fun H locs hB => ?_)
  rw [← e_56] at hB
  exact w_L_tick_220 M K a4 a5   _ _ _ _  hB (lv_sub hl [] rfl) hr
def f_L_tick_197 (a4 : Int32) (a5 : Int32)  (s0 : Int32) (s1 : Int32) (σ : Sg) : Option (Int32 × Sg) :=
if s1 < 0 ∨ 14 ≤ s1.toNatClampNeg then none else
wb (st σ 150 (s1.toNatClampNeg) s0) fun σ_48 =>
cb (f_X4_state_0 19 σ_48) fun v_50 σ_51 =>
if σ_48 150 4 = v_50 then
f_L_tick_219 a4 a5  0 2 σ_51
else
f_L_tick_219 a4 a5  (σ_51 150 2) 2 σ_51
set_option maxHeartbeats 4000000 in
set_option maxRecDepth 100000 in
theorem w_L_tick_197 {p : Program} {l : Launch} {e : Env} {s : State} {m : MethodId} {args : Array Value} {below : List Frame} {meth : Method} {c : Code} {Γ : GG} {res : Int32 × Sg} (M : MX RL cL_tick 7 none p s m args meth c) (K : KK Γ s s.heap) (a4 : Int32) (a5 : Int32) (s0 : Int32) (s1 : Int32) (σ : Sg) (H : Heap) (locs : List Loc) (ls : Array Slot)  (hB : Bd Γ σ s H locs) (hl : lv_has ls 7 [(0, .ref (Γ.1 0)), (1, .ref (Γ.1 150))]) (hr : f_L_tick_197 a4 a5  s0 s1 σ = some res) : WV Γ rm_L_tick p l e s m args below meth c H locs res (F0 m 197 ls [.int s0, .int s1, .ref (Γ.1 150)]) := by
  unfold f_L_tick_197 at hr
  obtain ⟨g_47, hr⟩ := gd hr
  obtain ⟨σ_48, e_49, hr⟩ := wbd hr
  refine x_iast M K hB isA_150 g_47 dL_tick_197 (fun H locs hB => ?_)
  rw [← e_49] at hB
  refine lv_aload_n M.1 M.2.1 dL_tick_198 rfl (lv_at hl 1 rfl) ?_
  refine lv_iconst (v := 2) M.1 M.2.1 dL_tick_199 (by decide) ?_
  refine lv_aload_n M.1 M.2.1 dL_tick_200 rfl (lv_at hl 1 rfl) ?_
  refine lv_iconst (v := 4) M.1 M.2.1 dL_tick_201 (by decide) ?_
  refine x_ialdL M K hB isA_150 (k := 4) (by decide) (by decide) dL_tick_202 ?_
  refine lv_aload_n M.1 M.2.1 dL_tick_203 rfl (lv_at hl 0 rfl) ?_
  refine lv_bipush (v := 19) M.1 M.2.1 dL_tick_204 (by decide) ?_
  obtain ⟨v_50, σ_51, h_52, hr⟩ := cbd hr
  refine x_callI (x_runV M K hB hl.1 [.int 19] (rest := [.int (σ_48 150 4), .int 2, .ref (Γ.1 150)]) rfl (c_X4_state l Γ 19  σ_48 (v_50, σ_51) h_52) cy_X4_state (x_recv K hB isK_0.2 (ent_4 isK_0.1) rfl) wd_106 ⟨rfl, rfl, Nat.le_of_ble_eq_true rfl, Nat.le_of_ble_eq_true rfl⟩ (Nat.le_of_ble_eq_true rfl) ⟨Nat.zero_le _, Nat.zero_le _⟩ dL_tick_206) hB (fun H locs hB => ?_)
  replace hB : Bd Γ σ_51 s H locs := hB
  refine lv_icmp_ne (tgt := 216) M.1 M.2.1 dL_tick_209 (by decide) (fun c_53 => ?_) (fun c_53 => ?_)
  · rw [if_neg c_53] at hr
    refine lv_aload_n M.1 M.2.1 dL_tick_216 rfl (lv_at hl 1 rfl) ?_
    refine lv_iconst (v := 2) M.1 M.2.1 dL_tick_217 (by decide) ?_
    refine x_ialdL M K hB isA_150 (k := 2) (by decide) (by decide) dL_tick_218 ?_
    exact w_L_tick_219 M K a4 a5  (σ_51 150 2) 2 _ _ _ _  hB (lv_sub hl [] rfl) hr
  · rw [if_pos c_53] at hr
    refine lv_iconst (v := 0) M.1 M.2.1 dL_tick_212 (by decide) ?_
    refine lv_goto (tgt := 219) M.1 M.2.1 dL_tick_213 (by decide) ?_
    exact w_L_tick_219 M K a4 a5  0 2 _ _ _ _  hB (lv_sub hl [] rfl) hr
def f_L_tick_183 (a4 : Int32) (a5 : Int32)  (x6 : Int32) (σ : Sg) : Option (Int32 × Sg) :=
if x6 = 0 then
f_L_tick_197 a4 a5  (σ 150 5) 5 σ
else
f_L_tick_197 a4 a5  0 5 σ
set_option maxHeartbeats 4000000 in
set_option maxRecDepth 100000 in
theorem w_L_tick_183 {p : Program} {l : Launch} {e : Env} {s : State} {m : MethodId} {args : Array Value} {below : List Frame} {meth : Method} {c : Code} {Γ : GG} {res : Int32 × Sg} (M : MX RL cL_tick 7 none p s m args meth c) (K : KK Γ s s.heap) (a4 : Int32) (a5 : Int32) (x6 : Int32) (σ : Sg) (H : Heap) (locs : List Loc) (ls : Array Slot)  (hB : Bd Γ σ s H locs) (hl : lv_has ls 7 [(0, .ref (Γ.1 0)), (1, .ref (Γ.1 150)), (6, .int x6)]) (hr : f_L_tick_183 a4 a5  x6 σ = some res) : WV Γ rm_L_tick p l e s m args below meth c H locs res (F0 m 183 ls []) := by
  unfold f_L_tick_183 at hr
  refine lv_aload_n M.1 M.2.1 dL_tick_183 rfl (lv_at hl 1 rfl) ?_
  refine lv_iconst (v := 5) M.1 M.2.1 dL_tick_184 (by decide) ?_
  refine lv_iload M.1 M.2.1 dL_tick_185 (lv_at hl 2 rfl) ?_
  refine lv_if_eq (tgt := 194) M.1 M.2.1 dL_tick_187 (by decide) (fun c_46 => ?_) (fun c_46 => ?_)
  · rw [if_pos c_46] at hr
    refine lv_aload_n M.1 M.2.1 dL_tick_194 rfl (lv_at hl 1 rfl) ?_
    refine lv_iconst (v := 5) M.1 M.2.1 dL_tick_195 (by decide) ?_
    refine x_ialdL M K hB isA_150 (k := 5) (by decide) (by decide) dL_tick_196 ?_
    exact w_L_tick_197 M K a4 a5  (σ 150 5) 5 _ _ _ _  hB (lv_sub hl [0, 1] rfl) hr
  · rw [if_neg c_46] at hr
    refine lv_iconst (v := 0) M.1 M.2.1 dL_tick_190 (by decide) ?_
    refine lv_goto (tgt := 197) M.1 M.2.1 dL_tick_191 (by decide) ?_
    exact w_L_tick_197 M K a4 a5  0 5 _ _ _ _  hB (lv_sub hl [0, 1] rfl) hr
def f_L_tick_152 (a4 : Int32) (a5 : Int32)  (x5 : Int32) (x6 : Int32) (σ : Sg) : Option (Int32 × Sg) :=
if x6 = 0 then
cb (f_X4_state_0 14 σ) fun v_39 σ_40 =>
if σ 150 5 ≤ v_39 then
f_L_tick_183 a4 a5  x6 σ_40
else
cb (f_L_reset_0 2 (-6) x5 σ_40) fun v_43 σ_44 =>
f_L_tick_220 a4 a5   σ_44
else
f_L_tick_183 a4 a5  x6 σ
set_option maxHeartbeats 4000000 in
set_option maxRecDepth 100000 in
theorem w_L_tick_152 {p : Program} {l : Launch} {e : Env} {s : State} {m : MethodId} {args : Array Value} {below : List Frame} {meth : Method} {c : Code} {Γ : GG} {res : Int32 × Sg} (M : MX RL cL_tick 7 none p s m args meth c) (K : KK Γ s s.heap) (a4 : Int32) (a5 : Int32) (x5 : Int32) (x6 : Int32) (σ : Sg) (H : Heap) (locs : List Loc) (ls : Array Slot)  (hB : Bd Γ σ s H locs) (hl : lv_has ls 7 [(0, .ref (Γ.1 0)), (1, .ref (Γ.1 150)), (2, .ref (Γ.1 151)), (5, .int x5), (6, .int x6)]) (hr : f_L_tick_152 a4 a5  x5 x6 σ = some res) : WV Γ rm_L_tick p l e s m args below meth c H locs res (F0 m 152 ls []) := by
  unfold f_L_tick_152 at hr
  refine lv_iload M.1 M.2.1 dL_tick_152 (lv_at hl 4 rfl) ?_
  refine lv_if_ne (tgt := 183) M.1 M.2.1 dL_tick_154 (by decide) (fun c_38 => ?_) (fun c_38 => ?_)
  · rw [if_neg c_38] at hr
    exact w_L_tick_183 M K a4 a5  x6 _ _ _ _  hB (lv_sub hl [0, 1, 4] rfl) hr
  · rw [if_pos c_38] at hr
    refine lv_aload_n M.1 M.2.1 dL_tick_157 rfl (lv_at hl 1 rfl) ?_
    refine lv_iconst (v := 5) M.1 M.2.1 dL_tick_158 (by decide) ?_
    refine x_ialdL M K hB isA_150 (k := 5) (by decide) (by decide) dL_tick_159 ?_
    refine lv_aload_n M.1 M.2.1 dL_tick_160 rfl (lv_at hl 0 rfl) ?_
    refine lv_bipush (v := 14) M.1 M.2.1 dL_tick_161 (by decide) ?_
    obtain ⟨v_39, σ_40, h_41, hr⟩ := cbd hr
    refine x_callI (x_runV M K hB hl.1 [.int 14] (rest := [.int (σ 150 5)]) rfl (c_X4_state l Γ 14  σ (v_39, σ_40) h_41) cy_X4_state (x_recv K hB isK_0.2 (ent_4 isK_0.1) rfl) wd_106 ⟨rfl, rfl, Nat.le_of_ble_eq_true rfl, Nat.le_of_ble_eq_true rfl⟩ (Nat.le_of_ble_eq_true rfl) ⟨Nat.zero_le _, Nat.zero_le _⟩ dL_tick_163) hB (fun H locs hB => ?_)
    replace hB : Bd Γ σ_40 s H locs := hB
    refine lv_icmp_le (tgt := 183) M.1 M.2.1 dL_tick_166 (by decide) (fun c_42 => ?_) (fun c_42 => ?_)
    · rw [if_pos c_42] at hr
      exact w_L_tick_183 M K a4 a5  x6 _ _ _ _  hB (lv_sub hl [0, 1, 4] rfl) hr
    · rw [if_neg c_42] at hr
      refine lv_aload_n M.1 M.2.1 dL_tick_169 rfl (lv_at hl 0 rfl) ?_
      refine lv_aload_n M.1 M.2.1 dL_tick_170 rfl (lv_at hl 1 rfl) ?_
      refine lv_aload_n M.1 M.2.1 dL_tick_171 rfl (lv_at hl 2 rfl) ?_
      refine lv_iconst (v := 2) M.1 M.2.1 dL_tick_172 (by decide) ?_
      refine lv_bipush (v := (-6)) M.1 M.2.1 dL_tick_173 (by decide) ?_
      refine lv_iload M.1 M.2.1 dL_tick_175 (lv_at hl 3 rfl) ?_
      obtain ⟨v_43, σ_44, h_45, hr⟩ := cbd hr
      refine x_callV (x_runS M K hB hl.1 [.ref (Γ.1 0), .ref (Γ.1 150), .ref (Γ.1 151), .int 2, .int (-6), .int x5] (rest := []) rfl (c_L_reset l Γ 2 (-6) x5  σ_40 (v_43, σ_44) h_45) cy_L_reset wd_110 ⟨rfl, rfl, Nat.le_of_ble_eq_true rfl, Nat.le_of_ble_eq_true rfl⟩ (Nat.le_of_ble_eq_true rfl) ⟨Nat.zero_le _, Nat.zero_le _⟩ dL_tick_177) hB (fun H locs hB => ?_)
      replace hB : Bd Γ σ_44 s H locs := hB
      refine lv_goto (tgt := 220) M.1 M.2.1 dL_tick_180 (by decide) ?_
      exact w_L_tick_220 M K a4 a5   _ _ _ _  hB (lv_sub hl [] rfl) hr
def f_L_tick_119 (a4 : Int32) (a5 : Int32)  (x5 : Int32) (s0 : Int32) (σ : Sg) : Option (Int32 × Sg) :=
if s0 = 0 then
f_L_tick_152 a4 a5  x5 s0 σ
else
cb (f_X4_state_0 13 σ) fun v_31 σ_32 =>
if v_31 ≤ σ 150 5 then
f_L_tick_152 a4 a5  x5 s0 σ_32
else
cb (f_L_reset_0 1 (-6) x5 σ_32) fun v_35 σ_36 =>
f_L_tick_220 a4 a5   σ_36
set_option maxHeartbeats 4000000 in
set_option maxRecDepth 100000 in
theorem w_L_tick_119 {p : Program} {l : Launch} {e : Env} {s : State} {m : MethodId} {args : Array Value} {below : List Frame} {meth : Method} {c : Code} {Γ : GG} {res : Int32 × Sg} (M : MX RL cL_tick 7 none p s m args meth c) (K : KK Γ s s.heap) (a4 : Int32) (a5 : Int32) (x5 : Int32) (s0 : Int32) (σ : Sg) (H : Heap) (locs : List Loc) (ls : Array Slot)  (hB : Bd Γ σ s H locs) (hl : lv_has ls 7 [(0, .ref (Γ.1 0)), (1, .ref (Γ.1 150)), (2, .ref (Γ.1 151)), (5, .int x5)]) (hr : f_L_tick_119 a4 a5  x5 s0 σ = some res) : WV Γ rm_L_tick p l e s m args below meth c H locs res (F0 m 119 ls [.int s0]) := by
  unfold f_L_tick_119 at hr
  refine lv_istore (lv' := [(6, .int s0), (0, .ref (Γ.1 0)), (1, .ref (Γ.1 150)), (2, .ref (Γ.1 151)), (5, .int x5)]) M.1 M.2.1 dL_tick_119 hl (by decide) rfl (fun ls hl => ?_)
  refine lv_iload M.1 M.2.1 dL_tick_121 (lv_at hl 0 rfl) ?_
  refine lv_if_eq (tgt := 152) M.1 M.2.1 dL_tick_123 (by decide) (fun c_30 => ?_) (fun c_30 => ?_)
  · rw [if_pos c_30] at hr
    exact w_L_tick_152 M K a4 a5  x5 s0 _ _ _ _  hB (lv_sub hl [1, 2, 3, 4, 0] rfl) hr
  · rw [if_neg c_30] at hr
    refine lv_aload_n M.1 M.2.1 dL_tick_126 rfl (lv_at hl 2 rfl) ?_
    refine lv_iconst (v := 5) M.1 M.2.1 dL_tick_127 (by decide) ?_
    refine x_ialdL M K hB isA_150 (k := 5) (by decide) (by decide) dL_tick_128 ?_
    refine lv_aload_n M.1 M.2.1 dL_tick_129 rfl (lv_at hl 1 rfl) ?_
    refine lv_bipush (v := 13) M.1 M.2.1 dL_tick_130 (by decide) ?_
    obtain ⟨v_31, σ_32, h_33, hr⟩ := cbd hr
    refine x_callI (x_runV M K hB hl.1 [.int 13] (rest := [.int (σ 150 5)]) rfl (c_X4_state l Γ 13  σ (v_31, σ_32) h_33) cy_X4_state (x_recv K hB isK_0.2 (ent_4 isK_0.1) rfl) wd_106 ⟨rfl, rfl, Nat.le_of_ble_eq_true rfl, Nat.le_of_ble_eq_true rfl⟩ (Nat.le_of_ble_eq_true rfl) ⟨Nat.zero_le _, Nat.zero_le _⟩ dL_tick_132) hB (fun H locs hB => ?_)
    replace hB : Bd Γ σ_32 s H locs := hB
    refine lv_icmp_ge (tgt := 152) M.1 M.2.1 dL_tick_135 (by decide) (fun c_34 => ?_) (fun c_34 => ?_)
    · rw [if_pos c_34] at hr
      exact w_L_tick_152 M K a4 a5  x5 s0 _ _ _ _  hB (lv_sub hl [1, 2, 3, 4, 0] rfl) hr
    · rw [if_neg c_34] at hr
      refine lv_aload_n M.1 M.2.1 dL_tick_138 rfl (lv_at hl 1 rfl) ?_
      refine lv_aload_n M.1 M.2.1 dL_tick_139 rfl (lv_at hl 2 rfl) ?_
      refine lv_aload_n M.1 M.2.1 dL_tick_140 rfl (lv_at hl 3 rfl) ?_
      refine lv_iconst (v := 1) M.1 M.2.1 dL_tick_141 (by decide) ?_
      refine lv_bipush (v := (-6)) M.1 M.2.1 dL_tick_142 (by decide) ?_
      refine lv_iload M.1 M.2.1 dL_tick_144 (lv_at hl 4 rfl) ?_
      obtain ⟨v_35, σ_36, h_37, hr⟩ := cbd hr
      refine x_callV (x_runS M K hB hl.1 [.ref (Γ.1 0), .ref (Γ.1 150), .ref (Γ.1 151), .int 1, .int (-6), .int x5] (rest := []) rfl (c_L_reset l Γ 1 (-6) x5  σ_32 (v_35, σ_36) h_37) cy_L_reset wd_110 ⟨rfl, rfl, Nat.le_of_ble_eq_true rfl, Nat.le_of_ble_eq_true rfl⟩ (Nat.le_of_ble_eq_true rfl) ⟨Nat.zero_le _, Nat.zero_le _⟩ dL_tick_146) hB (fun H locs hB => ?_)
      replace hB : Bd Γ σ_36 s H locs := hB
      refine lv_goto (tgt := 220) M.1 M.2.1 dL_tick_149 (by decide) ?_
      exact w_L_tick_220 M K a4 a5   _ _ _ _  hB (lv_sub hl [] rfl) hr
def f_L_tick_118 (a4 : Int32) (a5 : Int32)  (x5 : Int32) (σ : Sg) : Option (Int32 × Sg) :=
f_L_tick_119 a4 a5  x5 0 σ
set_option maxHeartbeats 4000000 in
set_option maxRecDepth 100000 in
theorem w_L_tick_118 {p : Program} {l : Launch} {e : Env} {s : State} {m : MethodId} {args : Array Value} {below : List Frame} {meth : Method} {c : Code} {Γ : GG} {res : Int32 × Sg} (M : MX RL cL_tick 7 none p s m args meth c) (K : KK Γ s s.heap) (a4 : Int32) (a5 : Int32) (x5 : Int32) (σ : Sg) (H : Heap) (locs : List Loc) (ls : Array Slot)  (hB : Bd Γ σ s H locs) (hl : lv_has ls 7 [(0, .ref (Γ.1 0)), (1, .ref (Γ.1 150)), (2, .ref (Γ.1 151)), (5, .int x5)]) (hr : f_L_tick_118 a4 a5  x5 σ = some res) : WV Γ rm_L_tick p l e s m args below meth c H locs res (F0 m 118 ls []) := by
  unfold f_L_tick_118 at hr
  refine lv_iconst (v := 0) M.1 M.2.1 dL_tick_118 (by decide) ?_
  exact w_L_tick_119 M K a4 a5  x5 0 _ _ _ _  hB (lv_sub hl [0, 1, 2, 3] rfl) hr
def f_L_tick_53 (a4 : Int32) (a5 : Int32)  : Nat → Int32 → Int32 → Int32 → Sg → Option (Int32 × Sg)
  | 0, _, _, _, _ => none
  | f + 1, x4, x5, x6, σ => if x4 ≤ x6 then
cb (f_X4_state_0 15 σ) fun v_14 σ_15 =>
if v_14 = 0 then none else
if (σ 150 4) - (σ 150 4) / v_14 * v_14 = 0 then
cb (f_L_kicks_0 x4 σ_15) fun v_19 σ_20 =>
if v_19 = 0 then
f_L_tick_118 a4 a5  x5 σ_20
else
f_L_tick_119 a4 a5  x5 1 σ_20
else
f_L_tick_118 a4 a5  x5 σ_15
else
cb (f_L_crashes_0 x6 σ) fun v_23 σ_24 =>
if v_23 = 0 then
f_L_tick_53 a4 a5  f x4 x5 (x6 + 1) σ_24
else
cb (f_L_reset_0 3 x6 x5 σ_24) fun v_27 σ_28 =>
some (0, σ_28)
set_option maxHeartbeats 4000000 in
set_option maxRecDepth 100000 in
theorem w_L_tick_53 {p : Program} {l : Launch} {e : Env} {s : State} {m : MethodId} {args : Array Value} {below : List Frame} {meth : Method} {c : Code} {Γ : GG} {res : Int32 × Sg} (M : MX RL cL_tick 7 none p s m args meth c) (K : KK Γ s s.heap) (a4 : Int32) (a5 : Int32) : ∀ (f : Nat) (x4 : Int32) (x5 : Int32) (x6 : Int32) (σ : Sg) (H : Heap) (locs : List Loc) (ls : Array Slot)  (hB : Bd Γ σ s H locs) (hl : lv_has ls 7 [(0, .ref (Γ.1 0)), (1, .ref (Γ.1 150)), (2, .ref (Γ.1 151)), (3, .ref (Γ.1 152)), (4, .int x4), (5, .int x5), (6, .int x6)]) (hr : f_L_tick_53 a4 a5  f x4 x5 x6 σ = some res), WV Γ rm_L_tick p l e s m args below meth c H locs res (F0 m 53 ls []) := by
  intro f
  induction f with
  | zero => intros; rename_i hr; exact absurd hr (by rw [f_L_tick_53]; exact fun h => by cases h)
  | succ f ih_53 =>
    intro x4 x5 x6 σ H locs ls  hB hl hr
    rw [f_L_tick_53] at hr
    refine lv_iload M.1 M.2.1 dL_tick_53 (lv_at hl 6 rfl) ?_
    refine lv_iload M.1 M.2.1 dL_tick_55 (lv_at hl 4 rfl) ?_
    refine lv_icmp_ge (tgt := 90) M.1 M.2.1 dL_tick_57 (by decide) (fun c_13 => ?_) (fun c_13 => ?_)
    · rw [if_pos c_13] at hr
      refine lv_aload_n M.1 M.2.1 dL_tick_90 rfl (lv_at hl 1 rfl) ?_
      refine lv_iconst (v := 4) M.1 M.2.1 dL_tick_91 (by decide) ?_
      refine x_ialdL M K hB isA_150 (k := 4) (by decide) (by decide) dL_tick_92 ?_
      refine lv_aload_n M.1 M.2.1 dL_tick_93 rfl (lv_at hl 0 rfl) ?_
      refine lv_bipush (v := 15) M.1 M.2.1 dL_tick_94 (by decide) ?_
      obtain ⟨v_14, σ_15, h_16, hr⟩ := cbd hr
      refine x_callI (x_runV M K hB hl.1 [.int 15] (rest := [.int (σ 150 4)]) rfl (c_X4_state l Γ 15  σ (v_14, σ_15) h_16) cy_X4_state (x_recv K hB isK_0.2 (ent_4 isK_0.1) rfl) wd_106 ⟨rfl, rfl, Nat.le_of_ble_eq_true rfl, Nat.le_of_ble_eq_true rfl⟩ (Nat.le_of_ble_eq_true rfl) ⟨Nat.zero_le _, Nat.zero_le _⟩ dL_tick_96) hB (fun H locs hB => ?_)
      replace hB : Bd Γ σ_15 s H locs := hB
      obtain ⟨g_17, hr⟩ := gd hr
      refine lv_irem M.1 M.2.1 dL_tick_99 g_17 ?_
      refine lv_if_ne (tgt := 118) M.1 M.2.1 dL_tick_100 (by decide) (fun c_18 => ?_) (fun c_18 => ?_)
      · rw [if_neg c_18] at hr
        exact w_L_tick_118 M K a4 a5  x5 _ _ _ _  hB (lv_sub hl [0, 1, 2, 5] rfl) hr
      · rw [if_pos c_18] at hr
        refine lv_aload_n M.1 M.2.1 dL_tick_103 rfl (lv_at hl 0 rfl) ?_
        refine lv_aload_n M.1 M.2.1 dL_tick_104 rfl (lv_at hl 1 rfl) ?_
        refine lv_aload_n M.1 M.2.1 dL_tick_105 rfl (lv_at hl 2 rfl) ?_
        refine lv_iload M.1 M.2.1 dL_tick_106 (lv_at hl 4 rfl) ?_
        obtain ⟨v_19, σ_20, h_21, hr⟩ := cbd hr
        refine x_callI (x_runS M K hB hl.1 [.ref (Γ.1 0), .ref (Γ.1 150), .ref (Γ.1 151), .int x4] (rest := []) rfl (c_L_kicks l Γ x4  σ_15 (v_19, σ_20) h_21) cy_L_kicks wd_108 ⟨rfl, rfl, Nat.le_of_ble_eq_true rfl, Nat.le_of_ble_eq_true rfl⟩ (Nat.le_of_ble_eq_true rfl) ⟨Nat.zero_le _, Nat.zero_le _⟩ dL_tick_108) hB (fun H locs hB => ?_)
        replace hB : Bd Γ σ_20 s H locs := hB
        refine lv_if_eq (tgt := 118) M.1 M.2.1 dL_tick_111 (by decide) (fun c_22 => ?_) (fun c_22 => ?_)
        · rw [if_pos c_22] at hr
          exact w_L_tick_118 M K a4 a5  x5 _ _ _ _  hB (lv_sub hl [0, 1, 2, 5] rfl) hr
        · rw [if_neg c_22] at hr
          refine lv_iconst (v := 1) M.1 M.2.1 dL_tick_114 (by decide) ?_
          refine lv_goto (tgt := 119) M.1 M.2.1 dL_tick_115 (by decide) ?_
          exact w_L_tick_119 M K a4 a5  x5 1 _ _ _ _  hB (lv_sub hl [0, 1, 2, 5] rfl) hr
    · rw [if_neg c_13] at hr
      refine lv_aload_n M.1 M.2.1 dL_tick_60 rfl (lv_at hl 0 rfl) ?_
      refine lv_aload_n M.1 M.2.1 dL_tick_61 rfl (lv_at hl 1 rfl) ?_
      refine lv_aload_n M.1 M.2.1 dL_tick_62 rfl (lv_at hl 2 rfl) ?_
      refine lv_aload_n M.1 M.2.1 dL_tick_63 rfl (lv_at hl 3 rfl) ?_
      refine lv_iload M.1 M.2.1 dL_tick_64 (lv_at hl 6 rfl) ?_
      obtain ⟨v_23, σ_24, h_25, hr⟩ := cbd hr
      refine x_callI (x_runS M K hB hl.1 [.ref (Γ.1 0), .ref (Γ.1 150), .ref (Γ.1 151), .ref (Γ.1 152), .int x6] (rest := []) rfl (c_L_crashes l Γ x6  σ (v_23, σ_24) h_25) cy_L_crashes wd_109 ⟨rfl, rfl, Nat.le_of_ble_eq_true rfl, Nat.le_of_ble_eq_true rfl⟩ (Nat.le_of_ble_eq_true rfl) ⟨Nat.zero_le _, Nat.zero_le _⟩ dL_tick_66) hB (fun H locs hB => ?_)
      replace hB : Bd Γ σ_24 s H locs := hB
      refine lv_if_eq (tgt := 84) M.1 M.2.1 dL_tick_69 (by decide) (fun c_26 => ?_) (fun c_26 => ?_)
      · rw [if_pos c_26] at hr
        refine lv_iinc (v := x6 + 1) (lv' := [(6, .int (x6 + 1)), (0, .ref (Γ.1 0)), (1, .ref (Γ.1 150)), (2, .ref (Γ.1 151)), (3, .ref (Γ.1 152)), (4, .int x4), (5, .int x5)]) M.1 M.2.1 dL_tick_84 hl (k := 6) rfl rfl (by decide) rfl (fun ls hl => ?_)
        refine lv_goto (tgt := 53) M.1 M.2.1 dL_tick_87 (by decide) ?_
        exact ih_53 x4 x5 (x6 + 1) _ _ _ _  hB (lv_sub hl [1, 2, 3, 4, 5, 6, 0] rfl) hr
      · rw [if_neg c_26] at hr
        refine lv_aload_n M.1 M.2.1 dL_tick_72 rfl (lv_at hl 0 rfl) ?_
        refine lv_aload_n M.1 M.2.1 dL_tick_73 rfl (lv_at hl 1 rfl) ?_
        refine lv_aload_n M.1 M.2.1 dL_tick_74 rfl (lv_at hl 2 rfl) ?_
        refine lv_iconst (v := 3) M.1 M.2.1 dL_tick_75 (by decide) ?_
        refine lv_iload M.1 M.2.1 dL_tick_76 (lv_at hl 6 rfl) ?_
        refine lv_iload M.1 M.2.1 dL_tick_78 (lv_at hl 5 rfl) ?_
        obtain ⟨v_27, σ_28, h_29, hr⟩ := cbd hr
        refine x_callV (x_runS M K hB hl.1 [.ref (Γ.1 0), .ref (Γ.1 150), .ref (Γ.1 151), .int 3, .int x6, .int x5] (rest := []) rfl (c_L_reset l Γ 3 x6 x5  σ_24 (v_27, σ_28) h_29) cy_L_reset wd_110 ⟨rfl, rfl, Nat.le_of_ble_eq_true rfl, Nat.le_of_ble_eq_true rfl⟩ (Nat.le_of_ble_eq_true rfl) ⟨Nat.zero_le _, Nat.zero_le _⟩ dL_tick_80) hB (fun H locs hB => ?_)
        replace hB : Bd Γ σ_28 s H locs := hB
        exact x_vret M hB (Option.some.inj hr) dL_tick_83
def f_L_tick_26 (a4 : Int32) (a5 : Int32)  (s0 : Int32) (s1 : Int32) (σ : Sg) : Option (Int32 × Sg) :=
if s1 < 0 ∨ 14 ≤ s1.toNatClampNeg then none else
wb (st σ 150 (s1.toNatClampNeg) s0) fun σ_11 =>
some (0, σ_11)
set_option maxHeartbeats 4000000 in
set_option maxRecDepth 100000 in
theorem w_L_tick_26 {p : Program} {l : Launch} {e : Env} {s : State} {m : MethodId} {args : Array Value} {below : List Frame} {meth : Method} {c : Code} {Γ : GG} {res : Int32 × Sg} (M : MX RL cL_tick 7 none p s m args meth c) (K : KK Γ s s.heap) (a4 : Int32) (a5 : Int32) (s0 : Int32) (s1 : Int32) (σ : Sg) (H : Heap) (locs : List Loc) (ls : Array Slot)  (hB : Bd Γ σ s H locs) (hl : lv_has ls 7 []) (hr : f_L_tick_26 a4 a5  s0 s1 σ = some res) : WV Γ rm_L_tick p l e s m args below meth c H locs res (F0 m 26 ls [.int s0, .int s1, .ref (Γ.1 150)]) := by
  unfold f_L_tick_26 at hr
  obtain ⟨g_10, hr⟩ := gd hr
  obtain ⟨σ_11, e_12, hr⟩ := wbd hr
  refine x_iast M K hB isA_150 g_10 dL_tick_26 (fun H locs hB => ?_)
  rw [← e_12] at hB
  exact x_vret M hB (Option.some.inj hr) dL_tick_27
def f_L_tick_0 (a4 : Int32) (a5 : Int32)   (σ : Sg) : Option (Int32 × Sg) :=
if σ 150 0 = 0 then
wb (st σ 150 3 ((σ 150 3) - 1)) fun σ_7 =>
if σ_7 150 3 = 0 then
f_L_tick_26 a4 a5  1 0 σ_7
else
f_L_tick_26 a4 a5  0 0 σ_7
else
if σ 150 0 = 2 then
some (0, σ)
else
wb (st σ 150 4 ((σ 150 4) + 1)) fun σ_3 =>
wb (st σ_3 150 5 ((σ_3 150 5) + 1)) fun σ_5 =>
f_L_tick_53 a4 a5  FU a4 a5 0 σ_5
set_option maxHeartbeats 4000000 in
set_option maxRecDepth 100000 in
theorem w_L_tick_0 {p : Program} {l : Launch} {e : Env} {s : State} {m : MethodId} {args : Array Value} {below : List Frame} {meth : Method} {c : Code} {Γ : GG} {res : Int32 × Sg} (M : MX RL cL_tick 7 none p s m args meth c) (K : KK Γ s s.heap) (a4 : Int32) (a5 : Int32)  (σ : Sg) (H : Heap) (locs : List Loc) (ls : Array Slot)  (hB : Bd Γ σ s H locs) (hl : lv_has ls 7 [(0, .ref (Γ.1 0)), (1, .ref (Γ.1 150)), (2, .ref (Γ.1 151)), (3, .ref (Γ.1 152)), (4, .int a4), (5, .int a5)]) (hr : f_L_tick_0 a4 a5   σ = some res) : WV Γ rm_L_tick p l e s m args below meth c H locs res (F0 m 0 ls []) := by
  unfold f_L_tick_0 at hr
  refine lv_aload_n M.1 M.2.1 dL_tick_0 rfl (lv_at hl 1 rfl) ?_
  refine lv_iconst (v := 0) M.1 M.2.1 dL_tick_1 (by decide) ?_
  refine x_ialdL M K hB isA_150 (k := 0) (by decide) (by decide) dL_tick_2 ?_
  refine lv_if_ne (tgt := 28) M.1 M.2.1 dL_tick_3 (by decide) (fun c_1 => ?_) (fun c_1 => ?_)
  · rw [if_neg c_1] at hr
    refine lv_aload_n M.1 M.2.1 dL_tick_28 rfl (lv_at hl 1 rfl) ?_
    refine lv_iconst (v := 0) M.1 M.2.1 dL_tick_29 (by decide) ?_
    refine x_ialdL M K hB isA_150 (k := 0) (by decide) (by decide) dL_tick_30 ?_
    refine lv_iconst (v := 2) M.1 M.2.1 dL_tick_31 (by decide) ?_
    refine lv_icmp_ne (tgt := 36) M.1 M.2.1 dL_tick_32 (by decide) (fun c_2 => ?_) (fun c_2 => ?_)
    · rw [if_neg c_2] at hr
      refine lv_aload_n M.1 M.2.1 dL_tick_36 rfl (lv_at hl 1 rfl) ?_
      refine lv_iconst (v := 4) M.1 M.2.1 dL_tick_37 (by decide) ?_
      refine lv_dup2_11 M.1 M.2.1 dL_tick_38 rfl rfl ?_
      refine x_ialdL M K hB isA_150 (k := 4) (by decide) (by decide) dL_tick_39 ?_
      refine lv_iconst (v := 1) M.1 M.2.1 dL_tick_40 (by decide) ?_
      refine lv_iadd M.1 M.2.1 dL_tick_41 ?_
      obtain ⟨σ_3, e_4, hr⟩ := wbd hr
      refine x_iastL M K hB isA_150 (k := 4) (by decide) (by decide) dL_tick_42 (fun H locs hB => ?_)
      rw [← e_4] at hB
      refine lv_aload_n M.1 M.2.1 dL_tick_43 rfl (lv_at hl 1 rfl) ?_
      refine lv_iconst (v := 5) M.1 M.2.1 dL_tick_44 (by decide) ?_
      refine lv_dup2_11 M.1 M.2.1 dL_tick_45 rfl rfl ?_
      refine x_ialdL M K hB isA_150 (k := 5) (by decide) (by decide) dL_tick_46 ?_
      refine lv_iconst (v := 1) M.1 M.2.1 dL_tick_47 (by decide) ?_
      refine lv_iadd M.1 M.2.1 dL_tick_48 ?_
      obtain ⟨σ_5, e_6, hr⟩ := wbd hr
      refine x_iastL M K hB isA_150 (k := 5) (by decide) (by decide) dL_tick_49 (fun H locs hB => ?_)
      rw [← e_6] at hB
      refine lv_iconst (v := 0) M.1 M.2.1 dL_tick_50 (by decide) ?_
      refine lv_istore (lv' := [(6, .int 0), (0, .ref (Γ.1 0)), (1, .ref (Γ.1 150)), (2, .ref (Γ.1 151)), (3, .ref (Γ.1 152)), (4, .int a4), (5, .int a5)]) M.1 M.2.1 dL_tick_51 hl (by decide) rfl (fun ls hl => ?_)
      exact w_L_tick_53 M K a4 a5  FU a4 a5 0 _ _ _ _  hB (lv_sub hl [1, 2, 3, 4, 5, 6, 0] rfl) hr
    · rw [if_pos c_2] at hr
      exact x_vret M hB (Option.some.inj hr) dL_tick_35
  · rw [if_pos c_1] at hr
    refine lv_aload_n M.1 M.2.1 dL_tick_6 rfl (lv_at hl 1 rfl) ?_
    refine lv_iconst (v := 3) M.1 M.2.1 dL_tick_7 (by decide) ?_
    refine lv_dup2_11 M.1 M.2.1 dL_tick_8 rfl rfl ?_
    refine x_ialdL M K hB isA_150 (k := 3) (by decide) (by decide) dL_tick_9 ?_
    refine lv_iconst (v := 1) M.1 M.2.1 dL_tick_10 (by decide) ?_
    refine lv_isub M.1 M.2.1 dL_tick_11 ?_
    obtain ⟨σ_7, e_8, hr⟩ := wbd hr
    refine x_iastL M K hB isA_150 (k := 3) (by decide) (by decide) dL_tick_12 (fun H locs hB => ?_)
    rw [← e_8] at hB
    refine lv_aload_n M.1 M.2.1 dL_tick_13 rfl (lv_at hl 1 rfl) ?_
    refine lv_iconst (v := 0) M.1 M.2.1 dL_tick_14 (by decide) ?_
    refine lv_aload_n M.1 M.2.1 dL_tick_15 rfl (lv_at hl 1 rfl) ?_
    refine lv_iconst (v := 3) M.1 M.2.1 dL_tick_16 (by decide) ?_
    refine x_ialdL M K hB isA_150 (k := 3) (by decide) (by decide) dL_tick_17 ?_
    refine lv_if_ne (tgt := 25) M.1 M.2.1 dL_tick_18 (by decide) (fun c_9 => ?_) (fun c_9 => ?_)
    · rw [if_neg c_9] at hr
      refine lv_iconst (v := 0) M.1 M.2.1 dL_tick_25 (by decide) ?_
      exact w_L_tick_26 M K a4 a5  0 0 _ _ _ _  hB (lv_sub hl [] rfl) hr
    · rw [if_pos c_9] at hr
      refine lv_iconst (v := 1) M.1 M.2.1 dL_tick_21 (by decide) ?_
      refine lv_goto (tgt := 26) M.1 M.2.1 dL_tick_22 (by decide) ?_
      exact w_L_tick_26 M K a4 a5  1 0 _ _ _ _  hB (lv_sub hl [] rfl) hr
theorem c_L_tick (l : Launch) (Γ : GG) (a4 : Int32) (a5 : Int32)  (σ : Sg) (res : Int32 × Sg) (hr : f_L_tick_0 a4 a5 σ = some res) : Met l yL_tick (Cond.code yL_tick cL_tick 7 none :: gtb) rm_L_tick (va_Pc [.ref (Γ.1 0), .ref (Γ.1 150), .ref (Γ.1 151), .ref (Γ.1 152), .int a4, .int a5] (GI Γ σ)) (QV Γ res) 0 0 (AD Γ) :=
  x_metV (by decide) [.ref (Γ.1 0), .ref (Γ.1 150), .ref (Γ.1 151), .ref (Γ.1 152), .int a4, .int a5] (Nat.le_of_ble_eq_true rfl) (fun p e s m args below meth c M K ls hl hB => w_L_tick_0 M K a4 a5 σ _ _ ls hB hl hr)
end
section
abbrev rm_L_isTold : Room := { frames := 3, cells := 0, slots := 0, locals := 66 }
def f_L_isTold_432 (a3 : Int32)  (s0 : Int32) (σ : Sg) : Option (Int32 × Sg) :=
if s0 = 0 ∨ s0 = 1 then some (s0, σ) else none
set_option maxHeartbeats 4000000 in
set_option maxRecDepth 100000 in
theorem w_L_isTold_432 {p : Program} {l : Launch} {e : Env} {s : State} {m : MethodId} {args : Array Value} {below : List Frame} {meth : Method} {c : Code} {Γ : GG} {res : Int32 × Sg} (M : MX RL cL_isTold 7 (some .boolean) p s m args meth c) (K : KK Γ s s.heap) (a3 : Int32) (s0 : Int32) (σ : Sg) (H : Heap) (locs : List Loc) (ls : Array Slot)  (hB : Bd Γ σ s H locs) (hl : lv_has ls 7 []) (hr : f_L_isTold_432 a3  s0 σ = some res) : WI Γ rm_L_isTold p l e s m args below meth c H locs res (F0 m 432 ls [.int s0]) := by
  unfold f_L_isTold_432 at hr
  obtain ⟨g_112, hr⟩ := gd2 hr
  exact x_zret M hB (nar_z g_112) (Option.some.inj hr) dL_isTold_432
def f_L_isTold_431 (a3 : Int32)   (σ : Sg) : Option (Int32 × Sg) :=
f_L_isTold_432 a3  0 σ
set_option maxHeartbeats 4000000 in
set_option maxRecDepth 100000 in
theorem w_L_isTold_431 {p : Program} {l : Launch} {e : Env} {s : State} {m : MethodId} {args : Array Value} {below : List Frame} {meth : Method} {c : Code} {Γ : GG} {res : Int32 × Sg} (M : MX RL cL_isTold 7 (some .boolean) p s m args meth c) (K : KK Γ s s.heap) (a3 : Int32)  (σ : Sg) (H : Heap) (locs : List Loc) (ls : Array Slot)  (hB : Bd Γ σ s H locs) (hl : lv_has ls 7 []) (hr : f_L_isTold_431 a3   σ = some res) : WI Γ rm_L_isTold p l e s m args below meth c H locs res (F0 m 431 ls []) := by
  unfold f_L_isTold_431 at hr
  refine lv_iconst (v := 0) M.1 M.2.1 dL_isTold_431 (by decide) ?_
  exact w_L_isTold_432 M K a3  0 _ _ _ _  hB (lv_sub hl [] rfl) hr
def f_L_isTold_310 (a3 : Int32)  (x4 : Int32) (σ : Sg) : Option (Int32 × Sg) :=
cb (f_X4_state_0 1 σ) fun v_72 σ_73 =>
if v_72 = σ_73 150 0 then
cb (f_X4_state_0 2 σ_73) fun v_76 σ_77 =>
if v_76 = σ_77 150 1 then
cb (f_X4_state_0 3 σ_77) fun v_80 σ_81 =>
if v_80 = σ_81 150 2 then
cb (f_X4_state_0 4 σ_81) fun v_84 σ_85 =>
if v_84 = σ_85 150 3 then
cb (f_X4_state_0 5 σ_85) fun v_88 σ_89 =>
if v_88 = σ_89 150 4 then
cb (f_X4_state_0 6 σ_89) fun v_92 σ_93 =>
if v_92 = σ_93 150 5 then
cb (f_X4_state_0 7 σ_93) fun v_96 σ_97 =>
if v_96 = σ_97 150 6 then
cb (f_X4_state_0 8 σ_97) fun v_100 σ_101 =>
if v_100 = σ_101 150 7 then
cb (f_X4_state_0 9 σ_101) fun v_104 σ_105 =>
if v_104 = σ_105 150 8 then
cb (f_X4_state_0 11 σ_105) fun v_108 σ_109 =>
if v_108 = x4 then
f_L_isTold_432 a3  1 σ_109
else
f_L_isTold_431 a3   σ_109
else
f_L_isTold_431 a3   σ_105
else
f_L_isTold_431 a3   σ_101
else
f_L_isTold_431 a3   σ_97
else
f_L_isTold_431 a3   σ_93
else
f_L_isTold_431 a3   σ_89
else
f_L_isTold_431 a3   σ_85
else
f_L_isTold_431 a3   σ_81
else
f_L_isTold_431 a3   σ_77
else
f_L_isTold_431 a3   σ_73
set_option maxHeartbeats 4000000 in
set_option maxRecDepth 100000 in
theorem w_L_isTold_310 {p : Program} {l : Launch} {e : Env} {s : State} {m : MethodId} {args : Array Value} {below : List Frame} {meth : Method} {c : Code} {Γ : GG} {res : Int32 × Sg} (M : MX RL cL_isTold 7 (some .boolean) p s m args meth c) (K : KK Γ s s.heap) (a3 : Int32) (x4 : Int32) (σ : Sg) (H : Heap) (locs : List Loc) (ls : Array Slot)  (hB : Bd Γ σ s H locs) (hl : lv_has ls 7 [(0, .ref (Γ.1 0)), (1, .ref (Γ.1 150)), (4, .int x4)]) (hr : f_L_isTold_310 a3  x4 σ = some res) : WI Γ rm_L_isTold p l e s m args below meth c H locs res (F0 m 310 ls []) := by
  unfold f_L_isTold_310 at hr
  refine lv_aload_n M.1 M.2.1 dL_isTold_310 rfl (lv_at hl 0 rfl) ?_
  refine lv_iconst (v := 1) M.1 M.2.1 dL_isTold_311 (by decide) ?_
  obtain ⟨v_72, σ_73, h_74, hr⟩ := cbd hr
  refine x_callI (x_runV M K hB hl.1 [.int 1] (rest := []) rfl (c_X4_state l Γ 1  σ (v_72, σ_73) h_74) cy_X4_state (x_recv K hB isK_0.2 (ent_4 isK_0.1) rfl) wd_106 ⟨rfl, rfl, Nat.le_of_ble_eq_true rfl, Nat.le_of_ble_eq_true rfl⟩ (Nat.le_of_ble_eq_true rfl) ⟨Nat.zero_le _, Nat.zero_le _⟩ dL_isTold_312) hB (fun H locs hB => ?_)
  replace hB : Bd Γ σ_73 s H locs := hB
  refine lv_aload_n M.1 M.2.1 dL_isTold_315 rfl (lv_at hl 1 rfl) ?_
  refine lv_iconst (v := 0) M.1 M.2.1 dL_isTold_316 (by decide) ?_
  refine x_ialdL M K hB isA_150 (k := 0) (by decide) (by decide) dL_isTold_317 ?_
  refine lv_icmp_ne (tgt := 431) M.1 M.2.1 dL_isTold_318 (by decide) (fun c_75 => ?_) (fun c_75 => ?_)
  · rw [if_neg c_75] at hr
    exact w_L_isTold_431 M K a3   _ _ _ _  hB (lv_sub hl [] rfl) hr
  · rw [if_pos c_75] at hr
    refine lv_aload_n M.1 M.2.1 dL_isTold_321 rfl (lv_at hl 0 rfl) ?_
    refine lv_iconst (v := 2) M.1 M.2.1 dL_isTold_322 (by decide) ?_
    obtain ⟨v_76, σ_77, h_78, hr⟩ := cbd hr
    refine x_callI (x_runV M K hB hl.1 [.int 2] (rest := []) rfl (c_X4_state l Γ 2  σ_73 (v_76, σ_77) h_78) cy_X4_state (x_recv K hB isK_0.2 (ent_4 isK_0.1) rfl) wd_106 ⟨rfl, rfl, Nat.le_of_ble_eq_true rfl, Nat.le_of_ble_eq_true rfl⟩ (Nat.le_of_ble_eq_true rfl) ⟨Nat.zero_le _, Nat.zero_le _⟩ dL_isTold_323) hB (fun H locs hB => ?_)
    replace hB : Bd Γ σ_77 s H locs := hB
    refine lv_aload_n M.1 M.2.1 dL_isTold_326 rfl (lv_at hl 1 rfl) ?_
    refine lv_iconst (v := 1) M.1 M.2.1 dL_isTold_327 (by decide) ?_
    refine x_ialdL M K hB isA_150 (k := 1) (by decide) (by decide) dL_isTold_328 ?_
    refine lv_icmp_ne (tgt := 431) M.1 M.2.1 dL_isTold_329 (by decide) (fun c_79 => ?_) (fun c_79 => ?_)
    · rw [if_neg c_79] at hr
      exact w_L_isTold_431 M K a3   _ _ _ _  hB (lv_sub hl [] rfl) hr
    · rw [if_pos c_79] at hr
      refine lv_aload_n M.1 M.2.1 dL_isTold_332 rfl (lv_at hl 0 rfl) ?_
      refine lv_iconst (v := 3) M.1 M.2.1 dL_isTold_333 (by decide) ?_
      obtain ⟨v_80, σ_81, h_82, hr⟩ := cbd hr
      refine x_callI (x_runV M K hB hl.1 [.int 3] (rest := []) rfl (c_X4_state l Γ 3  σ_77 (v_80, σ_81) h_82) cy_X4_state (x_recv K hB isK_0.2 (ent_4 isK_0.1) rfl) wd_106 ⟨rfl, rfl, Nat.le_of_ble_eq_true rfl, Nat.le_of_ble_eq_true rfl⟩ (Nat.le_of_ble_eq_true rfl) ⟨Nat.zero_le _, Nat.zero_le _⟩ dL_isTold_334) hB (fun H locs hB => ?_)
      replace hB : Bd Γ σ_81 s H locs := hB
      refine lv_aload_n M.1 M.2.1 dL_isTold_337 rfl (lv_at hl 1 rfl) ?_
      refine lv_iconst (v := 2) M.1 M.2.1 dL_isTold_338 (by decide) ?_
      refine x_ialdL M K hB isA_150 (k := 2) (by decide) (by decide) dL_isTold_339 ?_
      refine lv_icmp_ne (tgt := 431) M.1 M.2.1 dL_isTold_340 (by decide) (fun c_83 => ?_) (fun c_83 => ?_)
      · rw [if_neg c_83] at hr
        exact w_L_isTold_431 M K a3   _ _ _ _  hB (lv_sub hl [] rfl) hr
      · rw [if_pos c_83] at hr
        refine lv_aload_n M.1 M.2.1 dL_isTold_343 rfl (lv_at hl 0 rfl) ?_
        refine lv_iconst (v := 4) M.1 M.2.1 dL_isTold_344 (by decide) ?_
        obtain ⟨v_84, σ_85, h_86, hr⟩ := cbd hr
        refine x_callI (x_runV M K hB hl.1 [.int 4] (rest := []) rfl (c_X4_state l Γ 4  σ_81 (v_84, σ_85) h_86) cy_X4_state (x_recv K hB isK_0.2 (ent_4 isK_0.1) rfl) wd_106 ⟨rfl, rfl, Nat.le_of_ble_eq_true rfl, Nat.le_of_ble_eq_true rfl⟩ (Nat.le_of_ble_eq_true rfl) ⟨Nat.zero_le _, Nat.zero_le _⟩ dL_isTold_345) hB (fun H locs hB => ?_)
        replace hB : Bd Γ σ_85 s H locs := hB
        refine lv_aload_n M.1 M.2.1 dL_isTold_348 rfl (lv_at hl 1 rfl) ?_
        refine lv_iconst (v := 3) M.1 M.2.1 dL_isTold_349 (by decide) ?_
        refine x_ialdL M K hB isA_150 (k := 3) (by decide) (by decide) dL_isTold_350 ?_
        refine lv_icmp_ne (tgt := 431) M.1 M.2.1 dL_isTold_351 (by decide) (fun c_87 => ?_) (fun c_87 => ?_)
        · rw [if_neg c_87] at hr
          exact w_L_isTold_431 M K a3   _ _ _ _  hB (lv_sub hl [] rfl) hr
        · rw [if_pos c_87] at hr
          refine lv_aload_n M.1 M.2.1 dL_isTold_354 rfl (lv_at hl 0 rfl) ?_
          refine lv_iconst (v := 5) M.1 M.2.1 dL_isTold_355 (by decide) ?_
          obtain ⟨v_88, σ_89, h_90, hr⟩ := cbd hr
          refine x_callI (x_runV M K hB hl.1 [.int 5] (rest := []) rfl (c_X4_state l Γ 5  σ_85 (v_88, σ_89) h_90) cy_X4_state (x_recv K hB isK_0.2 (ent_4 isK_0.1) rfl) wd_106 ⟨rfl, rfl, Nat.le_of_ble_eq_true rfl, Nat.le_of_ble_eq_true rfl⟩ (Nat.le_of_ble_eq_true rfl) ⟨Nat.zero_le _, Nat.zero_le _⟩ dL_isTold_356) hB (fun H locs hB => ?_)
          replace hB : Bd Γ σ_89 s H locs := hB
          refine lv_aload_n M.1 M.2.1 dL_isTold_359 rfl (lv_at hl 1 rfl) ?_
          refine lv_iconst (v := 4) M.1 M.2.1 dL_isTold_360 (by decide) ?_
          refine x_ialdL M K hB isA_150 (k := 4) (by decide) (by decide) dL_isTold_361 ?_
          refine lv_icmp_ne (tgt := 431) M.1 M.2.1 dL_isTold_362 (by decide) (fun c_91 => ?_) (fun c_91 => ?_)
          · rw [if_neg c_91] at hr
            exact w_L_isTold_431 M K a3   _ _ _ _  hB (lv_sub hl [] rfl) hr
          · rw [if_pos c_91] at hr
            refine lv_aload_n M.1 M.2.1 dL_isTold_365 rfl (lv_at hl 0 rfl) ?_
            refine lv_bipush (v := 6) M.1 M.2.1 dL_isTold_366 (by decide) ?_
            obtain ⟨v_92, σ_93, h_94, hr⟩ := cbd hr
            refine x_callI (x_runV M K hB hl.1 [.int 6] (rest := []) rfl (c_X4_state l Γ 6  σ_89 (v_92, σ_93) h_94) cy_X4_state (x_recv K hB isK_0.2 (ent_4 isK_0.1) rfl) wd_106 ⟨rfl, rfl, Nat.le_of_ble_eq_true rfl, Nat.le_of_ble_eq_true rfl⟩ (Nat.le_of_ble_eq_true rfl) ⟨Nat.zero_le _, Nat.zero_le _⟩ dL_isTold_368) hB (fun H locs hB => ?_)
            replace hB : Bd Γ σ_93 s H locs := hB
            refine lv_aload_n M.1 M.2.1 dL_isTold_371 rfl (lv_at hl 1 rfl) ?_
            refine lv_iconst (v := 5) M.1 M.2.1 dL_isTold_372 (by decide) ?_
            refine x_ialdL M K hB isA_150 (k := 5) (by decide) (by decide) dL_isTold_373 ?_
            refine lv_icmp_ne (tgt := 431) M.1 M.2.1 dL_isTold_374 (by decide) (fun c_95 => ?_) (fun c_95 => ?_)
            · rw [if_neg c_95] at hr
              exact w_L_isTold_431 M K a3   _ _ _ _  hB (lv_sub hl [] rfl) hr
            · rw [if_pos c_95] at hr
              refine lv_aload_n M.1 M.2.1 dL_isTold_377 rfl (lv_at hl 0 rfl) ?_
              refine lv_bipush (v := 7) M.1 M.2.1 dL_isTold_378 (by decide) ?_
              obtain ⟨v_96, σ_97, h_98, hr⟩ := cbd hr
              refine x_callI (x_runV M K hB hl.1 [.int 7] (rest := []) rfl (c_X4_state l Γ 7  σ_93 (v_96, σ_97) h_98) cy_X4_state (x_recv K hB isK_0.2 (ent_4 isK_0.1) rfl) wd_106 ⟨rfl, rfl, Nat.le_of_ble_eq_true rfl, Nat.le_of_ble_eq_true rfl⟩ (Nat.le_of_ble_eq_true rfl) ⟨Nat.zero_le _, Nat.zero_le _⟩ dL_isTold_380) hB (fun H locs hB => ?_)
              replace hB : Bd Γ σ_97 s H locs := hB
              refine lv_aload_n M.1 M.2.1 dL_isTold_383 rfl (lv_at hl 1 rfl) ?_
              refine lv_bipush (v := 6) M.1 M.2.1 dL_isTold_384 (by decide) ?_
              refine x_ialdL M K hB isA_150 (k := 6) (by decide) (by decide) dL_isTold_386 ?_
              refine lv_icmp_ne (tgt := 431) M.1 M.2.1 dL_isTold_387 (by decide) (fun c_99 => ?_) (fun c_99 => ?_)
              · rw [if_neg c_99] at hr
                exact w_L_isTold_431 M K a3   _ _ _ _  hB (lv_sub hl [] rfl) hr
              · rw [if_pos c_99] at hr
                refine lv_aload_n M.1 M.2.1 dL_isTold_390 rfl (lv_at hl 0 rfl) ?_
                refine lv_bipush (v := 8) M.1 M.2.1 dL_isTold_391 (by decide) ?_
                obtain ⟨v_100, σ_101, h_102, hr⟩ := cbd hr
                refine x_callI (x_runV M K hB hl.1 [.int 8] (rest := []) rfl (c_X4_state l Γ 8  σ_97 (v_100, σ_101) h_102) cy_X4_state (x_recv K hB isK_0.2 (ent_4 isK_0.1) rfl) wd_106 ⟨rfl, rfl, Nat.le_of_ble_eq_true rfl, Nat.le_of_ble_eq_true rfl⟩ (Nat.le_of_ble_eq_true rfl) ⟨Nat.zero_le _, Nat.zero_le _⟩ dL_isTold_393) hB (fun H locs hB => ?_)
                replace hB : Bd Γ σ_101 s H locs := hB
                refine lv_aload_n M.1 M.2.1 dL_isTold_396 rfl (lv_at hl 1 rfl) ?_
                refine lv_bipush (v := 7) M.1 M.2.1 dL_isTold_397 (by decide) ?_
                refine x_ialdL M K hB isA_150 (k := 7) (by decide) (by decide) dL_isTold_399 ?_
                refine lv_icmp_ne (tgt := 431) M.1 M.2.1 dL_isTold_400 (by decide) (fun c_103 => ?_) (fun c_103 => ?_)
                · rw [if_neg c_103] at hr
                  exact w_L_isTold_431 M K a3   _ _ _ _  hB (lv_sub hl [] rfl) hr
                · rw [if_pos c_103] at hr
                  refine lv_aload_n M.1 M.2.1 dL_isTold_403 rfl (lv_at hl 0 rfl) ?_
                  refine lv_bipush (v := 9) M.1 M.2.1 dL_isTold_404 (by decide) ?_
                  obtain ⟨v_104, σ_105, h_106, hr⟩ := cbd hr
                  refine x_callI (x_runV M K hB hl.1 [.int 9] (rest := []) rfl (c_X4_state l Γ 9  σ_101 (v_104, σ_105) h_106) cy_X4_state (x_recv K hB isK_0.2 (ent_4 isK_0.1) rfl) wd_106 ⟨rfl, rfl, Nat.le_of_ble_eq_true rfl, Nat.le_of_ble_eq_true rfl⟩ (Nat.le_of_ble_eq_true rfl) ⟨Nat.zero_le _, Nat.zero_le _⟩ dL_isTold_406) hB (fun H locs hB => ?_)
                  replace hB : Bd Γ σ_105 s H locs := hB
                  refine lv_aload_n M.1 M.2.1 dL_isTold_409 rfl (lv_at hl 1 rfl) ?_
                  refine lv_bipush (v := 8) M.1 M.2.1 dL_isTold_410 (by decide) ?_
                  refine x_ialdL M K hB isA_150 (k := 8) (by decide) (by decide) dL_isTold_412 ?_
                  refine lv_icmp_ne (tgt := 431) M.1 M.2.1 dL_isTold_413 (by decide) (fun c_107 => ?_) (fun c_107 => ?_)
                  · rw [if_neg c_107] at hr
                    exact w_L_isTold_431 M K a3   _ _ _ _  hB (lv_sub hl [] rfl) hr
                  · rw [if_pos c_107] at hr
                    refine lv_aload_n M.1 M.2.1 dL_isTold_416 rfl (lv_at hl 0 rfl) ?_
                    refine lv_bipush (v := 11) M.1 M.2.1 dL_isTold_417 (by decide) ?_
                    obtain ⟨v_108, σ_109, h_110, hr⟩ := cbd hr
                    refine x_callI (x_runV M K hB hl.1 [.int 11] (rest := []) rfl (c_X4_state l Γ 11  σ_105 (v_108, σ_109) h_110) cy_X4_state (x_recv K hB isK_0.2 (ent_4 isK_0.1) rfl) wd_106 ⟨rfl, rfl, Nat.le_of_ble_eq_true rfl, Nat.le_of_ble_eq_true rfl⟩ (Nat.le_of_ble_eq_true rfl) ⟨Nat.zero_le _, Nat.zero_le _⟩ dL_isTold_419) hB (fun H locs hB => ?_)
                    replace hB : Bd Γ σ_109 s H locs := hB
                    refine lv_iload M.1 M.2.1 dL_isTold_422 (lv_at hl 2 rfl) ?_
                    refine lv_icmp_ne (tgt := 431) M.1 M.2.1 dL_isTold_424 (by decide) (fun c_111 => ?_) (fun c_111 => ?_)
                    · rw [if_neg c_111] at hr
                      exact w_L_isTold_431 M K a3   _ _ _ _  hB (lv_sub hl [] rfl) hr
                    · rw [if_pos c_111] at hr
                      refine lv_iconst (v := 1) M.1 M.2.1 dL_isTold_427 (by decide) ?_
                      refine lv_goto (tgt := 432) M.1 M.2.1 dL_isTold_428 (by decide) ?_
                      exact w_L_isTold_432 M K a3  1 _ _ _ _  hB (lv_sub hl [] rfl) hr
def f_L_isTold_308 (a3 : Int32)   (σ : Sg) : Option (Int32 × Sg) :=
some (0, σ)
set_option maxHeartbeats 4000000 in
set_option maxRecDepth 100000 in
theorem w_L_isTold_308 {p : Program} {l : Launch} {e : Env} {s : State} {m : MethodId} {args : Array Value} {below : List Frame} {meth : Method} {c : Code} {Γ : GG} {res : Int32 × Sg} (M : MX RL cL_isTold 7 (some .boolean) p s m args meth c) (K : KK Γ s s.heap) (a3 : Int32)  (σ : Sg) (H : Heap) (locs : List Loc) (ls : Array Slot)  (hB : Bd Γ σ s H locs) (hl : lv_has ls 7 []) (hr : f_L_isTold_308 a3   σ = some res) : WI Γ rm_L_isTold p l e s m args below meth c H locs res (F0 m 308 ls []) := by
  unfold f_L_isTold_308 at hr
  refine lv_iconst (v := 0) M.1 M.2.1 dL_isTold_308 (by decide) ?_
  exact x_zret M hB (nar_z (by decide)) (Option.some.inj hr) dL_isTold_309
def f_L_isTold_217 (a3 : Int32)   (σ : Sg) : Option (Int32 × Sg) :=
some (0, σ)
set_option maxHeartbeats 4000000 in
set_option maxRecDepth 100000 in
theorem w_L_isTold_217 {p : Program} {l : Launch} {e : Env} {s : State} {m : MethodId} {args : Array Value} {below : List Frame} {meth : Method} {c : Code} {Γ : GG} {res : Int32 × Sg} (M : MX RL cL_isTold 7 (some .boolean) p s m args meth c) (K : KK Γ s s.heap) (a3 : Int32)  (σ : Sg) (H : Heap) (locs : List Loc) (ls : Array Slot)  (hB : Bd Γ σ s H locs) (hl : lv_has ls 7 []) (hr : f_L_isTold_217 a3   σ = some res) : WI Γ rm_L_isTold p l e s m args below meth c H locs res (F0 m 217 ls []) := by
  unfold f_L_isTold_217 at hr
  refine lv_iconst (v := 0) M.1 M.2.1 dL_isTold_217 (by decide) ?_
  exact x_zret M hB (nar_z (by decide)) (Option.some.inj hr) dL_isTold_218
def f_L_isTold_214 (a3 : Int32) (rec_6 : Int32 → Int32 → Int32 → Sg → Option (Int32 × Sg)) (x3 : Int32) (x4 : Int32) (x5 : Int32) (s0 : Int32) (s1 : Int32) (σ : Sg) : Option (Int32 × Sg) :=
if s1 = s0 then
rec_6 x3 x4 (x5 + 1) σ
else
f_L_isTold_217 a3   σ
set_option maxHeartbeats 4000000 in
set_option maxRecDepth 100000 in
theorem w_L_isTold_214 {p : Program} {l : Launch} {e : Env} {s : State} {m : MethodId} {args : Array Value} {below : List Frame} {meth : Method} {c : Code} {Γ : GG} {res : Int32 × Sg} (M : MX RL cL_isTold 7 (some .boolean) p s m args meth c) (K : KK Γ s s.heap) (a3 : Int32) (rec_6 : Int32 → Int32 → Int32 → Sg → Option (Int32 × Sg)) (ih_6 : ∀ (x3 : Int32) (x4 : Int32) (x5 : Int32) (σ : Sg) (H : Heap) (locs : List Loc) (ls : Array Slot) , Bd Γ σ s H locs → lv_has ls 7 [(0, .ref (Γ.1 0)), (1, .ref (Γ.1 150)), (2, .ref (Γ.1 151)), (3, .int x3), (4, .int x4), (5, .int x5)] → rec_6 x3 x4 x5 σ = some res → WI Γ rm_L_isTold p l e s m args below meth c H locs res (F0 m 6 ls [])) (x3 : Int32) (x4 : Int32) (x5 : Int32) (s0 : Int32) (s1 : Int32) (σ : Sg) (H : Heap) (locs : List Loc) (ls : Array Slot)  (hB : Bd Γ σ s H locs) (hl : lv_has ls 7 [(0, .ref (Γ.1 0)), (1, .ref (Γ.1 150)), (2, .ref (Γ.1 151)), (3, .int x3), (4, .int x4), (5, .int x5)]) (hr : f_L_isTold_214 a3 rec_6 x3 x4 x5 s0 s1 σ = some res) : WI Γ rm_L_isTold p l e s m args below meth c H locs res (F0 m 214 ls [.int s0, .int s1]) := by
  unfold f_L_isTold_214 at hr
  refine lv_icmp_eq (tgt := 219) M.1 M.2.1 dL_isTold_214 (by decide) (fun c_71 => ?_) (fun c_71 => ?_)
  · rw [if_pos c_71] at hr
    refine lv_iinc (v := x5 + 1) (lv' := [(5, .int (x5 + 1)), (0, .ref (Γ.1 0)), (1, .ref (Γ.1 150)), (2, .ref (Γ.1 151)), (3, .int x3), (4, .int x4)]) M.1 M.2.1 dL_isTold_219 hl (k := 5) rfl rfl (by decide) rfl (fun ls hl => ?_)
    refine lv_goto (tgt := 6) M.1 M.2.1 dL_isTold_222 (by decide) ?_
    exact ih_6 x3 x4 (x5 + 1) _ _ _ _  hB (lv_sub hl [1, 2, 3, 4, 5, 0] rfl) hr
  · rw [if_neg c_71] at hr
    exact w_L_isTold_217 M K a3   _ _ _ _  hB (lv_sub hl [] rfl) hr
def f_L_isTold_199 (a3 : Int32) (rec_6 : Int32 → Int32 → Int32 → Sg → Option (Int32 × Sg)) (x3 : Int32) (x4 : Int32) (x5 : Int32) (x6 : Int32) (s0 : Int32) (σ : Sg) : Option (Int32 × Sg) :=
if x6 + 8 < 0 ∨ 30 ≤ (x6 + 8).toNatClampNeg then none else
if σ 151 ((x6 + 8).toNatClampNeg) = 0 then
f_L_isTold_214 a3 rec_6 x3 x4 x5 1 s0 σ
else
f_L_isTold_214 a3 rec_6 x3 x4 x5 0 s0 σ
set_option maxHeartbeats 4000000 in
set_option maxRecDepth 100000 in
theorem w_L_isTold_199 {p : Program} {l : Launch} {e : Env} {s : State} {m : MethodId} {args : Array Value} {below : List Frame} {meth : Method} {c : Code} {Γ : GG} {res : Int32 × Sg} (M : MX RL cL_isTold 7 (some .boolean) p s m args meth c) (K : KK Γ s s.heap) (a3 : Int32) (rec_6 : Int32 → Int32 → Int32 → Sg → Option (Int32 × Sg)) (ih_6 : ∀ (x3 : Int32) (x4 : Int32) (x5 : Int32) (σ : Sg) (H : Heap) (locs : List Loc) (ls : Array Slot) , Bd Γ σ s H locs → lv_has ls 7 [(0, .ref (Γ.1 0)), (1, .ref (Γ.1 150)), (2, .ref (Γ.1 151)), (3, .int x3), (4, .int x4), (5, .int x5)] → rec_6 x3 x4 x5 σ = some res → WI Γ rm_L_isTold p l e s m args below meth c H locs res (F0 m 6 ls [])) (x3 : Int32) (x4 : Int32) (x5 : Int32) (x6 : Int32) (s0 : Int32) (σ : Sg) (H : Heap) (locs : List Loc) (ls : Array Slot)  (hB : Bd Γ σ s H locs) (hl : lv_has ls 7 [(0, .ref (Γ.1 0)), (1, .ref (Γ.1 150)), (2, .ref (Γ.1 151)), (3, .int x3), (4, .int x4), (5, .int x5), (6, .int x6)]) (hr : f_L_isTold_199 a3 rec_6 x3 x4 x5 x6 s0 σ = some res) : WI Γ rm_L_isTold p l e s m args below meth c H locs res (F0 m 199 ls [.int s0]) := by
  unfold f_L_isTold_199 at hr
  refine lv_aload_n M.1 M.2.1 dL_isTold_199 rfl (lv_at hl 2 rfl) ?_
  refine lv_iload M.1 M.2.1 dL_isTold_200 (lv_at hl 6 rfl) ?_
  refine lv_bipush (v := 8) M.1 M.2.1 dL_isTold_202 (by decide) ?_
  refine lv_iadd M.1 M.2.1 dL_isTold_204 ?_
  obtain ⟨g_69, hr⟩ := gd hr
  refine x_iald M K hB isA_151 g_69 dL_isTold_205 ?_
  refine lv_if_ne (tgt := 213) M.1 M.2.1 dL_isTold_206 (by decide) (fun c_70 => ?_) (fun c_70 => ?_)
  · rw [if_neg c_70] at hr
    refine lv_iconst (v := 0) M.1 M.2.1 dL_isTold_213 (by decide) ?_
    exact w_L_isTold_214 M K a3 _ ih_6 x3 x4 x5 0 s0 _ _ _ _  hB (lv_sub hl [0, 1, 2, 3, 4, 5] rfl) hr
  · rw [if_pos c_70] at hr
    refine lv_iconst (v := 1) M.1 M.2.1 dL_isTold_209 (by decide) ?_
    refine lv_goto (tgt := 214) M.1 M.2.1 dL_isTold_210 (by decide) ?_
    exact w_L_isTold_214 M K a3 _ ih_6 x3 x4 x5 1 s0 _ _ _ _  hB (lv_sub hl [0, 1, 2, 3, 4, 5] rfl) hr
def f_L_isTold_6 (a3 : Int32)  : Nat → Int32 → Int32 → Int32 → Sg → Option (Int32 × Sg)
  | 0, _, _, _, _ => none
  | f + 1, x3, x4, x5, σ => if x3 ≤ x5 then
if (σ 150 8) - 1 < 0 then
f_L_isTold_310 a3  x4 σ
else
cb (f_X4_record_0 ((σ 150 8) - 1) 0 σ) fun v_3 σ_4 =>
if v_3 = σ_4 150 9 then
cb (f_X4_record_0 ((σ 150 8) - 1) 1 σ_4) fun v_7 σ_8 =>
if v_7 = σ_8 150 10 then
cb (f_X4_record_0 ((σ 150 8) - 1) 2 σ_8) fun v_11 σ_12 =>
if v_11 = σ_12 150 11 then
cb (f_X4_record_0 ((σ 150 8) - 1) 3 σ_12) fun v_15 σ_16 =>
if v_15 = σ_16 150 12 then
cb (f_X4_record_0 ((σ 150 8) - 1) 4 σ_16) fun v_19 σ_20 =>
if v_19 = σ_20 150 13 then
f_L_isTold_310 a3  x4 σ_20
else
f_L_isTold_308 a3   σ_20
else
f_L_isTold_308 a3   σ_16
else
f_L_isTold_308 a3   σ_12
else
f_L_isTold_308 a3   σ_8
else
f_L_isTold_308 a3   σ_4
else
if (10 * x5) + 7 < 0 ∨ 30 ≤ ((10 * x5) + 7).toNatClampNeg then none else
cb (f_X4_task_0 x5 8 σ) fun v_24 σ_25 =>
if (10 * x5) + 0 < 0 ∨ 30 ≤ ((10 * x5) + 0).toNatClampNeg then none else
if v_24 = σ_25 151 (((10 * x5) + 0).toNatClampNeg) then
cb (f_X4_task_0 x5 9 σ_25) fun v_29 σ_30 =>
if (10 * x5) + 3 < 0 ∨ 30 ≤ ((10 * x5) + 3).toNatClampNeg then none else
if (10 * x5) + 1 < 0 ∨ 30 ≤ ((10 * x5) + 1).toNatClampNeg then none else
if v_29 = (σ_30 151 (((10 * x5) + 3).toNatClampNeg)) * (1 - (σ_30 151 (((10 * x5) + 1).toNatClampNeg))) then
cb (f_X4_task_0 x5 10 σ_30) fun v_35 σ_36 =>
if (10 * x5) + 4 < 0 ∨ 30 ≤ ((10 * x5) + 4).toNatClampNeg then none else
if v_35 = σ_36 151 (((10 * x5) + 4).toNatClampNeg) then
cb (f_X4_task_0 x5 11 σ_36) fun v_40 σ_41 =>
if (10 * x5) + 5 < 0 ∨ 30 ≤ ((10 * x5) + 5).toNatClampNeg then none else
if v_40 = σ_41 151 (((10 * x5) + 5).toNatClampNeg) then
cb (f_X4_task_0 x5 12 σ_41) fun v_45 σ_46 =>
if (10 * x5) + 6 < 0 ∨ 30 ≤ ((10 * x5) + 6).toNatClampNeg then none else
if v_45 = σ_46 151 (((10 * x5) + 6).toNatClampNeg) then
cb (f_X4_task_0 x5 13 σ_46) fun v_50 σ_51 =>
if (10 * x5) + 7 < 0 ∨ 30 ≤ ((10 * x5) + 7).toNatClampNeg then none else
if v_50 = σ_51 151 (((10 * x5) + 7).toNatClampNeg) then
cb (f_X4_task_0 x5 16 σ_51) fun v_55 σ_56 =>
if (10 * x5) + 8 < 0 ∨ 30 ≤ ((10 * x5) + 8).toNatClampNeg then none else
if v_55 = σ_56 151 (((10 * x5) + 8).toNatClampNeg) then
cb (f_X4_task_0 x5 18 σ_56) fun v_60 σ_61 =>
if (10 * x5) + 9 < 0 ∨ 30 ≤ ((10 * x5) + 9).toNatClampNeg then none else
if v_60 = σ_61 151 (((10 * x5) + 9).toNatClampNeg) then
cb (f_X4_task_0 x5 17 σ_61) fun v_65 σ_66 =>
if 0 ≤ v_65 then
f_L_isTold_199 a3 (f_L_isTold_6 a3  f) x3 (x4 ||| ((σ 151 (((10 * x5) + 7).toNatClampNeg)) <<< (x5 &&& 31))) x5 (10 * x5) 0 σ_66
else
f_L_isTold_199 a3 (f_L_isTold_6 a3  f) x3 (x4 ||| ((σ 151 (((10 * x5) + 7).toNatClampNeg)) <<< (x5 &&& 31))) x5 (10 * x5) 1 σ_66
else
f_L_isTold_217 a3   σ_61
else
f_L_isTold_217 a3   σ_56
else
f_L_isTold_217 a3   σ_51
else
f_L_isTold_217 a3   σ_46
else
f_L_isTold_217 a3   σ_41
else
f_L_isTold_217 a3   σ_36
else
f_L_isTold_217 a3   σ_30
else
f_L_isTold_217 a3   σ_25
set_option maxHeartbeats 4000000 in
set_option maxRecDepth 100000 in
theorem w_L_isTold_6 {p : Program} {l : Launch} {e : Env} {s : State} {m : MethodId} {args : Array Value} {below : List Frame} {meth : Method} {c : Code} {Γ : GG} {res : Int32 × Sg} (M : MX RL cL_isTold 7 (some .boolean) p s m args meth c) (K : KK Γ s s.heap) (a3 : Int32) : ∀ (f : Nat) (x3 : Int32) (x4 : Int32) (x5 : Int32) (σ : Sg) (H : Heap) (locs : List Loc) (ls : Array Slot)  (hB : Bd Γ σ s H locs) (hl : lv_has ls 7 [(0, .ref (Γ.1 0)), (1, .ref (Γ.1 150)), (2, .ref (Γ.1 151)), (3, .int x3), (4, .int x4), (5, .int x5)]) (hr : f_L_isTold_6 a3  f x3 x4 x5 σ = some res), WI Γ rm_L_isTold p l e s m args below meth c H locs res (F0 m 6 ls []) := by
  intro f
  induction f with
  | zero => intros; rename_i hr; exact absurd hr (by rw [f_L_isTold_6]; exact fun h => by cases h)
  | succ f ih_6 =>
    intro x3 x4 x5 σ H locs ls  hB hl hr
    rw [f_L_isTold_6] at hr
    refine lv_iload M.1 M.2.1 dL_isTold_6 (lv_at hl 5 rfl) ?_
    refine lv_iload_n M.1 M.2.1 dL_isTold_8 rfl (lv_at hl 3 rfl) ?_
    refine lv_icmp_ge (tgt := 225) M.1 M.2.1 dL_isTold_9 (by decide) (fun c_1 => ?_) (fun c_1 => ?_)
    · rw [if_pos c_1] at hr
      refine lv_aload_n M.1 M.2.1 dL_isTold_225 rfl (lv_at hl 1 rfl) ?_
      refine lv_bipush (v := 8) M.1 M.2.1 dL_isTold_226 (by decide) ?_
      refine x_ialdL M K hB isA_150 (k := 8) (by decide) (by decide) dL_isTold_228 ?_
      refine lv_iconst (v := 1) M.1 M.2.1 dL_isTold_229 (by decide) ?_
      refine lv_isub M.1 M.2.1 dL_isTold_230 ?_
      refine lv_istore (lv' := [(5, .int ((σ 150 8) - 1)), (0, .ref (Γ.1 0)), (1, .ref (Γ.1 150)), (2, .ref (Γ.1 151)), (3, .int x3), (4, .int x4)]) M.1 M.2.1 dL_isTold_231 hl (by decide) rfl (fun ls hl => ?_)
      refine lv_iload M.1 M.2.1 dL_isTold_233 (lv_at hl 0 rfl) ?_
      refine lv_if_lt (tgt := 310) M.1 M.2.1 dL_isTold_235 (by decide) (fun c_2 => ?_) (fun c_2 => ?_)
      · rw [if_pos c_2] at hr
        exact w_L_isTold_310 M K a3  x4 _ _ _ _  hB (lv_sub hl [1, 2, 5] rfl) hr
      · rw [if_neg c_2] at hr
        refine lv_aload_n M.1 M.2.1 dL_isTold_238 rfl (lv_at hl 1 rfl) ?_
        refine lv_iload M.1 M.2.1 dL_isTold_239 (lv_at hl 0 rfl) ?_
        refine lv_iconst (v := 0) M.1 M.2.1 dL_isTold_241 (by decide) ?_
        obtain ⟨v_3, σ_4, h_5, hr⟩ := cbd hr
        refine x_callI (x_runV M K hB hl.1 [.int ((σ 150 8) - 1), .int 0] (rest := []) rfl (c_X4_record l Γ ((σ 150 8) - 1) 0  σ (v_3, σ_4) h_5) cy_X4_record (x_recv K hB isK_0.2 (ent_4 isK_0.1) rfl) wd_111 ⟨rfl, rfl, Nat.le_of_ble_eq_true rfl, Nat.le_of_ble_eq_true rfl⟩ (Nat.le_of_ble_eq_true rfl) ⟨Nat.zero_le _, Nat.zero_le _⟩ dL_isTold_242) hB (fun H locs hB => ?_)
        replace hB : Bd Γ σ_4 s H locs := hB
        refine lv_aload_n M.1 M.2.1 dL_isTold_245 rfl (lv_at hl 2 rfl) ?_
        refine lv_bipush (v := 9) M.1 M.2.1 dL_isTold_246 (by decide) ?_
        refine x_ialdL M K hB isA_150 (k := 9) (by decide) (by decide) dL_isTold_248 ?_
        refine lv_icmp_ne (tgt := 308) M.1 M.2.1 dL_isTold_249 (by decide) (fun c_6 => ?_) (fun c_6 => ?_)
        · rw [if_neg c_6] at hr
          exact w_L_isTold_308 M K a3   _ _ _ _  hB (lv_sub hl [] rfl) hr
        · rw [if_pos c_6] at hr
          refine lv_aload_n M.1 M.2.1 dL_isTold_252 rfl (lv_at hl 1 rfl) ?_
          refine lv_iload M.1 M.2.1 dL_isTold_253 (lv_at hl 0 rfl) ?_
          refine lv_iconst (v := 1) M.1 M.2.1 dL_isTold_255 (by decide) ?_
          obtain ⟨v_7, σ_8, h_9, hr⟩ := cbd hr
          refine x_callI (x_runV M K hB hl.1 [.int ((σ 150 8) - 1), .int 1] (rest := []) rfl (c_X4_record l Γ ((σ 150 8) - 1) 1  σ_4 (v_7, σ_8) h_9) cy_X4_record (x_recv K hB isK_0.2 (ent_4 isK_0.1) rfl) wd_111 ⟨rfl, rfl, Nat.le_of_ble_eq_true rfl, Nat.le_of_ble_eq_true rfl⟩ (Nat.le_of_ble_eq_true rfl) ⟨Nat.zero_le _, Nat.zero_le _⟩ dL_isTold_256) hB (fun H locs hB => ?_)
          replace hB : Bd Γ σ_8 s H locs := hB
          refine lv_aload_n M.1 M.2.1 dL_isTold_259 rfl (lv_at hl 2 rfl) ?_
          refine lv_bipush (v := 10) M.1 M.2.1 dL_isTold_260 (by decide) ?_
          refine x_ialdL M K hB isA_150 (k := 10) (by decide) (by decide) dL_isTold_262 ?_
          refine lv_icmp_ne (tgt := 308) M.1 M.2.1 dL_isTold_263 (by decide) (fun c_10 => ?_) (fun c_10 => ?_)
          · rw [if_neg c_10] at hr
            exact w_L_isTold_308 M K a3   _ _ _ _  hB (lv_sub hl [] rfl) hr
          · rw [if_pos c_10] at hr
            refine lv_aload_n M.1 M.2.1 dL_isTold_266 rfl (lv_at hl 1 rfl) ?_
            refine lv_iload M.1 M.2.1 dL_isTold_267 (lv_at hl 0 rfl) ?_
            refine lv_iconst (v := 2) M.1 M.2.1 dL_isTold_269 (by decide) ?_
            obtain ⟨v_11, σ_12, h_13, hr⟩ := cbd hr
            refine x_callI (x_runV M K hB hl.1 [.int ((σ 150 8) - 1), .int 2] (rest := []) rfl (c_X4_record l Γ ((σ 150 8) - 1) 2  σ_8 (v_11, σ_12) h_13) cy_X4_record (x_recv K hB isK_0.2 (ent_4 isK_0.1) rfl) wd_111 ⟨rfl, rfl, Nat.le_of_ble_eq_true rfl, Nat.le_of_ble_eq_true rfl⟩ (Nat.le_of_ble_eq_true rfl) ⟨Nat.zero_le _, Nat.zero_le _⟩ dL_isTold_270) hB (fun H locs hB => ?_)
            replace hB : Bd Γ σ_12 s H locs := hB
            refine lv_aload_n M.1 M.2.1 dL_isTold_273 rfl (lv_at hl 2 rfl) ?_
            refine lv_bipush (v := 11) M.1 M.2.1 dL_isTold_274 (by decide) ?_
            refine x_ialdL M K hB isA_150 (k := 11) (by decide) (by decide) dL_isTold_276 ?_
            refine lv_icmp_ne (tgt := 308) M.1 M.2.1 dL_isTold_277 (by decide) (fun c_14 => ?_) (fun c_14 => ?_)
            · rw [if_neg c_14] at hr
              exact w_L_isTold_308 M K a3   _ _ _ _  hB (lv_sub hl [] rfl) hr
            · rw [if_pos c_14] at hr
              refine lv_aload_n M.1 M.2.1 dL_isTold_280 rfl (lv_at hl 1 rfl) ?_
              refine lv_iload M.1 M.2.1 dL_isTold_281 (lv_at hl 0 rfl) ?_
              refine lv_iconst (v := 3) M.1 M.2.1 dL_isTold_283 (by decide) ?_
              obtain ⟨v_15, σ_16, h_17, hr⟩ := cbd hr
              refine x_callI (x_runV M K hB hl.1 [.int ((σ 150 8) - 1), .int 3] (rest := []) rfl (c_X4_record l Γ ((σ 150 8) - 1) 3  σ_12 (v_15, σ_16) h_17) cy_X4_record (x_recv K hB isK_0.2 (ent_4 isK_0.1) rfl) wd_111 ⟨rfl, rfl, Nat.le_of_ble_eq_true rfl, Nat.le_of_ble_eq_true rfl⟩ (Nat.le_of_ble_eq_true rfl) ⟨Nat.zero_le _, Nat.zero_le _⟩ dL_isTold_284) hB (fun H locs hB => ?_)
              replace hB : Bd Γ σ_16 s H locs := hB
              refine lv_aload_n M.1 M.2.1 dL_isTold_287 rfl (lv_at hl 2 rfl) ?_
              refine lv_bipush (v := 12) M.1 M.2.1 dL_isTold_288 (by decide) ?_
              refine x_ialdL M K hB isA_150 (k := 12) (by decide) (by decide) dL_isTold_290 ?_
              refine lv_icmp_ne (tgt := 308) M.1 M.2.1 dL_isTold_291 (by decide) (fun c_18 => ?_) (fun c_18 => ?_)
              · rw [if_neg c_18] at hr
                exact w_L_isTold_308 M K a3   _ _ _ _  hB (lv_sub hl [] rfl) hr
              · rw [if_pos c_18] at hr
                refine lv_aload_n M.1 M.2.1 dL_isTold_294 rfl (lv_at hl 1 rfl) ?_
                refine lv_iload M.1 M.2.1 dL_isTold_295 (lv_at hl 0 rfl) ?_
                refine lv_iconst (v := 4) M.1 M.2.1 dL_isTold_297 (by decide) ?_
                obtain ⟨v_19, σ_20, h_21, hr⟩ := cbd hr
                refine x_callI (x_runV M K hB hl.1 [.int ((σ 150 8) - 1), .int 4] (rest := []) rfl (c_X4_record l Γ ((σ 150 8) - 1) 4  σ_16 (v_19, σ_20) h_21) cy_X4_record (x_recv K hB isK_0.2 (ent_4 isK_0.1) rfl) wd_111 ⟨rfl, rfl, Nat.le_of_ble_eq_true rfl, Nat.le_of_ble_eq_true rfl⟩ (Nat.le_of_ble_eq_true rfl) ⟨Nat.zero_le _, Nat.zero_le _⟩ dL_isTold_298) hB (fun H locs hB => ?_)
                replace hB : Bd Γ σ_20 s H locs := hB
                refine lv_aload_n M.1 M.2.1 dL_isTold_301 rfl (lv_at hl 2 rfl) ?_
                refine lv_bipush (v := 13) M.1 M.2.1 dL_isTold_302 (by decide) ?_
                refine x_ialdL M K hB isA_150 (k := 13) (by decide) (by decide) dL_isTold_304 ?_
                refine lv_icmp_eq (tgt := 310) M.1 M.2.1 dL_isTold_305 (by decide) (fun c_22 => ?_) (fun c_22 => ?_)
                · rw [if_pos c_22] at hr
                  exact w_L_isTold_310 M K a3  x4 _ _ _ _  hB (lv_sub hl [1, 2, 5] rfl) hr
                · rw [if_neg c_22] at hr
                  exact w_L_isTold_308 M K a3   _ _ _ _  hB (lv_sub hl [] rfl) hr
    · rw [if_neg c_1] at hr
      refine lv_bipush (v := 10) M.1 M.2.1 dL_isTold_12 (by decide) ?_
      refine lv_iload M.1 M.2.1 dL_isTold_14 (lv_at hl 5 rfl) ?_
      refine lv_imul M.1 M.2.1 dL_isTold_16 ?_
      refine lv_istore (lv' := [(6, .int (10 * x5)), (0, .ref (Γ.1 0)), (1, .ref (Γ.1 150)), (2, .ref (Γ.1 151)), (3, .int x3), (4, .int x4), (5, .int x5)]) M.1 M.2.1 dL_isTold_17 hl (by decide) rfl (fun ls hl => ?_)
      refine lv_iload M.1 M.2.1 dL_isTold_19 (lv_at hl 5 rfl) ?_
      refine lv_aload_n M.1 M.2.1 dL_isTold_21 rfl (lv_at hl 3 rfl) ?_
      refine lv_iload M.1 M.2.1 dL_isTold_22 (lv_at hl 0 rfl) ?_
      refine lv_bipush (v := 7) M.1 M.2.1 dL_isTold_24 (by decide) ?_
      refine lv_iadd M.1 M.2.1 dL_isTold_26 ?_
      obtain ⟨g_23, hr⟩ := gd hr
      refine x_iald M K hB isA_151 g_23 dL_isTold_27 ?_
      refine lv_iload M.1 M.2.1 dL_isTold_28 (lv_at hl 6 rfl) ?_
      refine lv_ishl M.1 M.2.1 dL_isTold_30 ?_
      refine lv_ior M.1 M.2.1 dL_isTold_31 ?_
      refine lv_istore (lv' := [(4, .int (x4 ||| ((σ 151 (((10 * x5) + 7).toNatClampNeg)) <<< (x5 &&& 31)))), (6, .int (10 * x5)), (0, .ref (Γ.1 0)), (1, .ref (Γ.1 150)), (2, .ref (Γ.1 151)), (3, .int x3), (5, .int x5)]) M.1 M.2.1 dL_isTold_32 hl (by decide) rfl (fun ls hl => ?_)
      refine lv_aload_n M.1 M.2.1 dL_isTold_34 rfl (lv_at hl 2 rfl) ?_
      refine lv_iload M.1 M.2.1 dL_isTold_35 (lv_at hl 6 rfl) ?_
      refine lv_bipush (v := 8) M.1 M.2.1 dL_isTold_37 (by decide) ?_
      obtain ⟨v_24, σ_25, h_26, hr⟩ := cbd hr
      refine x_callI (x_runV M K hB hl.1 [.int x5, .int 8] (rest := []) rfl (c_X4_task l Γ x5 8  σ (v_24, σ_25) h_26) cy_X4_task (x_recv K hB isK_0.2 (ent_4 isK_0.1) rfl) wd_105 ⟨rfl, rfl, Nat.le_of_ble_eq_true rfl, Nat.le_of_ble_eq_true rfl⟩ (Nat.le_of_ble_eq_true rfl) ⟨Nat.zero_le _, Nat.zero_le _⟩ dL_isTold_39) hB (fun H locs hB => ?_)
      replace hB : Bd Γ σ_25 s H locs := hB
      refine lv_aload_n M.1 M.2.1 dL_isTold_42 rfl (lv_at hl 4 rfl) ?_
      refine lv_iload M.1 M.2.1 dL_isTold_43 (lv_at hl 1 rfl) ?_
      refine lv_iconst (v := 0) M.1 M.2.1 dL_isTold_45 (by decide) ?_
      refine lv_iadd M.1 M.2.1 dL_isTold_46 ?_
      obtain ⟨g_27, hr⟩ := gd hr
      refine x_iald M K hB isA_151 g_27 dL_isTold_47 ?_
      refine lv_icmp_ne (tgt := 217) M.1 M.2.1 dL_isTold_48 (by decide) (fun c_28 => ?_) (fun c_28 => ?_)
      · rw [if_neg c_28] at hr
        exact w_L_isTold_217 M K a3   _ _ _ _  hB (lv_sub hl [] rfl) hr
      · rw [if_pos c_28] at hr
        refine lv_aload_n M.1 M.2.1 dL_isTold_51 rfl (lv_at hl 2 rfl) ?_
        refine lv_iload M.1 M.2.1 dL_isTold_52 (lv_at hl 6 rfl) ?_
        refine lv_bipush (v := 9) M.1 M.2.1 dL_isTold_54 (by decide) ?_
        obtain ⟨v_29, σ_30, h_31, hr⟩ := cbd hr
        refine x_callI (x_runV M K hB hl.1 [.int x5, .int 9] (rest := []) rfl (c_X4_task l Γ x5 9  σ_25 (v_29, σ_30) h_31) cy_X4_task (x_recv K hB isK_0.2 (ent_4 isK_0.1) rfl) wd_105 ⟨rfl, rfl, Nat.le_of_ble_eq_true rfl, Nat.le_of_ble_eq_true rfl⟩ (Nat.le_of_ble_eq_true rfl) ⟨Nat.zero_le _, Nat.zero_le _⟩ dL_isTold_56) hB (fun H locs hB => ?_)
        replace hB : Bd Γ σ_30 s H locs := hB
        refine lv_aload_n M.1 M.2.1 dL_isTold_59 rfl (lv_at hl 4 rfl) ?_
        refine lv_iload M.1 M.2.1 dL_isTold_60 (lv_at hl 1 rfl) ?_
        refine lv_iconst (v := 3) M.1 M.2.1 dL_isTold_62 (by decide) ?_
        refine lv_iadd M.1 M.2.1 dL_isTold_63 ?_
        obtain ⟨g_32, hr⟩ := gd hr
        refine x_iald M K hB isA_151 g_32 dL_isTold_64 ?_
        refine lv_iconst (v := 1) M.1 M.2.1 dL_isTold_65 (by decide) ?_
        refine lv_aload_n M.1 M.2.1 dL_isTold_66 rfl (lv_at hl 4 rfl) ?_
        refine lv_iload M.1 M.2.1 dL_isTold_67 (lv_at hl 1 rfl) ?_
        refine lv_iconst (v := 1) M.1 M.2.1 dL_isTold_69 (by decide) ?_
        refine lv_iadd M.1 M.2.1 dL_isTold_70 ?_
        obtain ⟨g_33, hr⟩ := gd hr
        refine x_iald M K hB isA_151 g_33 dL_isTold_71 ?_
        refine lv_isub M.1 M.2.1 dL_isTold_72 ?_
        refine lv_imul M.1 M.2.1 dL_isTold_73 ?_
        refine lv_icmp_ne (tgt := 217) M.1 M.2.1 dL_isTold_74 (by decide) (fun c_34 => ?_) (fun c_34 => ?_)
        · rw [if_neg c_34] at hr
          exact w_L_isTold_217 M K a3   _ _ _ _  hB (lv_sub hl [] rfl) hr
        · rw [if_pos c_34] at hr
          refine lv_aload_n M.1 M.2.1 dL_isTold_77 rfl (lv_at hl 2 rfl) ?_
          refine lv_iload M.1 M.2.1 dL_isTold_78 (lv_at hl 6 rfl) ?_
          refine lv_bipush (v := 10) M.1 M.2.1 dL_isTold_80 (by decide) ?_
          obtain ⟨v_35, σ_36, h_37, hr⟩ := cbd hr
          refine x_callI (x_runV M K hB hl.1 [.int x5, .int 10] (rest := []) rfl (c_X4_task l Γ x5 10  σ_30 (v_35, σ_36) h_37) cy_X4_task (x_recv K hB isK_0.2 (ent_4 isK_0.1) rfl) wd_105 ⟨rfl, rfl, Nat.le_of_ble_eq_true rfl, Nat.le_of_ble_eq_true rfl⟩ (Nat.le_of_ble_eq_true rfl) ⟨Nat.zero_le _, Nat.zero_le _⟩ dL_isTold_82) hB (fun H locs hB => ?_)
          replace hB : Bd Γ σ_36 s H locs := hB
          refine lv_aload_n M.1 M.2.1 dL_isTold_85 rfl (lv_at hl 4 rfl) ?_
          refine lv_iload M.1 M.2.1 dL_isTold_86 (lv_at hl 1 rfl) ?_
          refine lv_iconst (v := 4) M.1 M.2.1 dL_isTold_88 (by decide) ?_
          refine lv_iadd M.1 M.2.1 dL_isTold_89 ?_
          obtain ⟨g_38, hr⟩ := gd hr
          refine x_iald M K hB isA_151 g_38 dL_isTold_90 ?_
          refine lv_icmp_ne (tgt := 217) M.1 M.2.1 dL_isTold_91 (by decide) (fun c_39 => ?_) (fun c_39 => ?_)
          · rw [if_neg c_39] at hr
            exact w_L_isTold_217 M K a3   _ _ _ _  hB (lv_sub hl [] rfl) hr
          · rw [if_pos c_39] at hr
            refine lv_aload_n M.1 M.2.1 dL_isTold_94 rfl (lv_at hl 2 rfl) ?_
            refine lv_iload M.1 M.2.1 dL_isTold_95 (lv_at hl 6 rfl) ?_
            refine lv_bipush (v := 11) M.1 M.2.1 dL_isTold_97 (by decide) ?_
            obtain ⟨v_40, σ_41, h_42, hr⟩ := cbd hr
            refine x_callI (x_runV M K hB hl.1 [.int x5, .int 11] (rest := []) rfl (c_X4_task l Γ x5 11  σ_36 (v_40, σ_41) h_42) cy_X4_task (x_recv K hB isK_0.2 (ent_4 isK_0.1) rfl) wd_105 ⟨rfl, rfl, Nat.le_of_ble_eq_true rfl, Nat.le_of_ble_eq_true rfl⟩ (Nat.le_of_ble_eq_true rfl) ⟨Nat.zero_le _, Nat.zero_le _⟩ dL_isTold_99) hB (fun H locs hB => ?_)
            replace hB : Bd Γ σ_41 s H locs := hB
            refine lv_aload_n M.1 M.2.1 dL_isTold_102 rfl (lv_at hl 4 rfl) ?_
            refine lv_iload M.1 M.2.1 dL_isTold_103 (lv_at hl 1 rfl) ?_
            refine lv_iconst (v := 5) M.1 M.2.1 dL_isTold_105 (by decide) ?_
            refine lv_iadd M.1 M.2.1 dL_isTold_106 ?_
            obtain ⟨g_43, hr⟩ := gd hr
            refine x_iald M K hB isA_151 g_43 dL_isTold_107 ?_
            refine lv_icmp_ne (tgt := 217) M.1 M.2.1 dL_isTold_108 (by decide) (fun c_44 => ?_) (fun c_44 => ?_)
            · rw [if_neg c_44] at hr
              exact w_L_isTold_217 M K a3   _ _ _ _  hB (lv_sub hl [] rfl) hr
            · rw [if_pos c_44] at hr
              refine lv_aload_n M.1 M.2.1 dL_isTold_111 rfl (lv_at hl 2 rfl) ?_
              refine lv_iload M.1 M.2.1 dL_isTold_112 (lv_at hl 6 rfl) ?_
              refine lv_bipush (v := 12) M.1 M.2.1 dL_isTold_114 (by decide) ?_
              obtain ⟨v_45, σ_46, h_47, hr⟩ := cbd hr
              refine x_callI (x_runV M K hB hl.1 [.int x5, .int 12] (rest := []) rfl (c_X4_task l Γ x5 12  σ_41 (v_45, σ_46) h_47) cy_X4_task (x_recv K hB isK_0.2 (ent_4 isK_0.1) rfl) wd_105 ⟨rfl, rfl, Nat.le_of_ble_eq_true rfl, Nat.le_of_ble_eq_true rfl⟩ (Nat.le_of_ble_eq_true rfl) ⟨Nat.zero_le _, Nat.zero_le _⟩ dL_isTold_116) hB (fun H locs hB => ?_)
              replace hB : Bd Γ σ_46 s H locs := hB
              refine lv_aload_n M.1 M.2.1 dL_isTold_119 rfl (lv_at hl 4 rfl) ?_
              refine lv_iload M.1 M.2.1 dL_isTold_120 (lv_at hl 1 rfl) ?_
              refine lv_bipush (v := 6) M.1 M.2.1 dL_isTold_122 (by decide) ?_
              refine lv_iadd M.1 M.2.1 dL_isTold_124 ?_
              obtain ⟨g_48, hr⟩ := gd hr
              refine x_iald M K hB isA_151 g_48 dL_isTold_125 ?_
              refine lv_icmp_ne (tgt := 217) M.1 M.2.1 dL_isTold_126 (by decide) (fun c_49 => ?_) (fun c_49 => ?_)
              · rw [if_neg c_49] at hr
                exact w_L_isTold_217 M K a3   _ _ _ _  hB (lv_sub hl [] rfl) hr
              · rw [if_pos c_49] at hr
                refine lv_aload_n M.1 M.2.1 dL_isTold_129 rfl (lv_at hl 2 rfl) ?_
                refine lv_iload M.1 M.2.1 dL_isTold_130 (lv_at hl 6 rfl) ?_
                refine lv_bipush (v := 13) M.1 M.2.1 dL_isTold_132 (by decide) ?_
                obtain ⟨v_50, σ_51, h_52, hr⟩ := cbd hr
                refine x_callI (x_runV M K hB hl.1 [.int x5, .int 13] (rest := []) rfl (c_X4_task l Γ x5 13  σ_46 (v_50, σ_51) h_52) cy_X4_task (x_recv K hB isK_0.2 (ent_4 isK_0.1) rfl) wd_105 ⟨rfl, rfl, Nat.le_of_ble_eq_true rfl, Nat.le_of_ble_eq_true rfl⟩ (Nat.le_of_ble_eq_true rfl) ⟨Nat.zero_le _, Nat.zero_le _⟩ dL_isTold_134) hB (fun H locs hB => ?_)
                replace hB : Bd Γ σ_51 s H locs := hB
                refine lv_aload_n M.1 M.2.1 dL_isTold_137 rfl (lv_at hl 4 rfl) ?_
                refine lv_iload M.1 M.2.1 dL_isTold_138 (lv_at hl 1 rfl) ?_
                refine lv_bipush (v := 7) M.1 M.2.1 dL_isTold_140 (by decide) ?_
                refine lv_iadd M.1 M.2.1 dL_isTold_142 ?_
                obtain ⟨g_53, hr⟩ := gd hr
                refine x_iald M K hB isA_151 g_53 dL_isTold_143 ?_
                refine lv_icmp_ne (tgt := 217) M.1 M.2.1 dL_isTold_144 (by decide) (fun c_54 => ?_) (fun c_54 => ?_)
                · rw [if_neg c_54] at hr
                  exact w_L_isTold_217 M K a3   _ _ _ _  hB (lv_sub hl [] rfl) hr
                · rw [if_pos c_54] at hr
                  refine lv_aload_n M.1 M.2.1 dL_isTold_147 rfl (lv_at hl 2 rfl) ?_
                  refine lv_iload M.1 M.2.1 dL_isTold_148 (lv_at hl 6 rfl) ?_
                  refine lv_bipush (v := 16) M.1 M.2.1 dL_isTold_150 (by decide) ?_
                  obtain ⟨v_55, σ_56, h_57, hr⟩ := cbd hr
                  refine x_callI (x_runV M K hB hl.1 [.int x5, .int 16] (rest := []) rfl (c_X4_task l Γ x5 16  σ_51 (v_55, σ_56) h_57) cy_X4_task (x_recv K hB isK_0.2 (ent_4 isK_0.1) rfl) wd_105 ⟨rfl, rfl, Nat.le_of_ble_eq_true rfl, Nat.le_of_ble_eq_true rfl⟩ (Nat.le_of_ble_eq_true rfl) ⟨Nat.zero_le _, Nat.zero_le _⟩ dL_isTold_152) hB (fun H locs hB => ?_)
                  replace hB : Bd Γ σ_56 s H locs := hB
                  refine lv_aload_n M.1 M.2.1 dL_isTold_155 rfl (lv_at hl 4 rfl) ?_
                  refine lv_iload M.1 M.2.1 dL_isTold_156 (lv_at hl 1 rfl) ?_
                  refine lv_bipush (v := 8) M.1 M.2.1 dL_isTold_158 (by decide) ?_
                  refine lv_iadd M.1 M.2.1 dL_isTold_160 ?_
                  obtain ⟨g_58, hr⟩ := gd hr
                  refine x_iald M K hB isA_151 g_58 dL_isTold_161 ?_
                  refine lv_icmp_ne (tgt := 217) M.1 M.2.1 dL_isTold_162 (by decide) (fun c_59 => ?_) (fun c_59 => ?_)
                  · rw [if_neg c_59] at hr
                    exact w_L_isTold_217 M K a3   _ _ _ _  hB (lv_sub hl [] rfl) hr
                  · rw [if_pos c_59] at hr
                    refine lv_aload_n M.1 M.2.1 dL_isTold_165 rfl (lv_at hl 2 rfl) ?_
                    refine lv_iload M.1 M.2.1 dL_isTold_166 (lv_at hl 6 rfl) ?_
                    refine lv_bipush (v := 18) M.1 M.2.1 dL_isTold_168 (by decide) ?_
                    obtain ⟨v_60, σ_61, h_62, hr⟩ := cbd hr
                    refine x_callI (x_runV M K hB hl.1 [.int x5, .int 18] (rest := []) rfl (c_X4_task l Γ x5 18  σ_56 (v_60, σ_61) h_62) cy_X4_task (x_recv K hB isK_0.2 (ent_4 isK_0.1) rfl) wd_105 ⟨rfl, rfl, Nat.le_of_ble_eq_true rfl, Nat.le_of_ble_eq_true rfl⟩ (Nat.le_of_ble_eq_true rfl) ⟨Nat.zero_le _, Nat.zero_le _⟩ dL_isTold_170) hB (fun H locs hB => ?_)
                    replace hB : Bd Γ σ_61 s H locs := hB
                    refine lv_aload_n M.1 M.2.1 dL_isTold_173 rfl (lv_at hl 4 rfl) ?_
                    refine lv_iload M.1 M.2.1 dL_isTold_174 (lv_at hl 1 rfl) ?_
                    refine lv_bipush (v := 9) M.1 M.2.1 dL_isTold_176 (by decide) ?_
                    refine lv_iadd M.1 M.2.1 dL_isTold_178 ?_
                    obtain ⟨g_63, hr⟩ := gd hr
                    refine x_iald M K hB isA_151 g_63 dL_isTold_179 ?_
                    refine lv_icmp_ne (tgt := 217) M.1 M.2.1 dL_isTold_180 (by decide) (fun c_64 => ?_) (fun c_64 => ?_)
                    · rw [if_neg c_64] at hr
                      exact w_L_isTold_217 M K a3   _ _ _ _  hB (lv_sub hl [] rfl) hr
                    · rw [if_pos c_64] at hr
                      refine lv_aload_n M.1 M.2.1 dL_isTold_183 rfl (lv_at hl 2 rfl) ?_
                      refine lv_iload M.1 M.2.1 dL_isTold_184 (lv_at hl 6 rfl) ?_
                      refine lv_bipush (v := 17) M.1 M.2.1 dL_isTold_186 (by decide) ?_
                      obtain ⟨v_65, σ_66, h_67, hr⟩ := cbd hr
                      refine x_callI (x_runV M K hB hl.1 [.int x5, .int 17] (rest := []) rfl (c_X4_task l Γ x5 17  σ_61 (v_65, σ_66) h_67) cy_X4_task (x_recv K hB isK_0.2 (ent_4 isK_0.1) rfl) wd_105 ⟨rfl, rfl, Nat.le_of_ble_eq_true rfl, Nat.le_of_ble_eq_true rfl⟩ (Nat.le_of_ble_eq_true rfl) ⟨Nat.zero_le _, Nat.zero_le _⟩ dL_isTold_188) hB (fun H locs hB => ?_)
                      replace hB : Bd Γ σ_66 s H locs := hB
                      refine lv_if_ge (tgt := 198) M.1 M.2.1 dL_isTold_191 (by decide) (fun c_68 => ?_) (fun c_68 => ?_)
                      · rw [if_pos c_68] at hr
                        refine lv_iconst (v := 0) M.1 M.2.1 dL_isTold_198 (by decide) ?_
                        exact w_L_isTold_199 M K a3 _ ih_6 x3 (x4 ||| ((σ 151 (((10 * x5) + 7).toNatClampNeg)) <<< (x5 &&& 31))) x5 (10 * x5) 0 _ _ _ _  hB (lv_sub hl [2, 3, 4, 5, 0, 6, 1] rfl) hr
                      · rw [if_neg c_68] at hr
                        refine lv_iconst (v := 1) M.1 M.2.1 dL_isTold_194 (by decide) ?_
                        refine lv_goto (tgt := 199) M.1 M.2.1 dL_isTold_195 (by decide) ?_
                        exact w_L_isTold_199 M K a3 _ ih_6 x3 (x4 ||| ((σ 151 (((10 * x5) + 7).toNatClampNeg)) <<< (x5 &&& 31))) x5 (10 * x5) 1 _ _ _ _  hB (lv_sub hl [2, 3, 4, 5, 0, 6, 1] rfl) hr
def f_L_isTold_0 (a3 : Int32)   (σ : Sg) : Option (Int32 × Sg) :=
f_L_isTold_6 a3  FU a3 0 0 σ
set_option maxHeartbeats 4000000 in
set_option maxRecDepth 100000 in
theorem w_L_isTold_0 {p : Program} {l : Launch} {e : Env} {s : State} {m : MethodId} {args : Array Value} {below : List Frame} {meth : Method} {c : Code} {Γ : GG} {res : Int32 × Sg} (M : MX RL cL_isTold 7 (some .boolean) p s m args meth c) (K : KK Γ s s.heap) (a3 : Int32)  (σ : Sg) (H : Heap) (locs : List Loc) (ls : Array Slot)  (hB : Bd Γ σ s H locs) (hl : lv_has ls 7 [(0, .ref (Γ.1 0)), (1, .ref (Γ.1 150)), (2, .ref (Γ.1 151)), (3, .int a3)]) (hr : f_L_isTold_0 a3   σ = some res) : WI Γ rm_L_isTold p l e s m args below meth c H locs res (F0 m 0 ls []) := by
  unfold f_L_isTold_0 at hr
  refine lv_iconst (v := 0) M.1 M.2.1 dL_isTold_0 (by decide) ?_
  refine lv_istore (lv' := [(4, .int 0), (0, .ref (Γ.1 0)), (1, .ref (Γ.1 150)), (2, .ref (Γ.1 151)), (3, .int a3)]) M.1 M.2.1 dL_isTold_1 hl (by decide) rfl (fun ls hl => ?_)
  refine lv_iconst (v := 0) M.1 M.2.1 dL_isTold_3 (by decide) ?_
  refine lv_istore (lv' := [(5, .int 0), (4, .int 0), (0, .ref (Γ.1 0)), (1, .ref (Γ.1 150)), (2, .ref (Γ.1 151)), (3, .int a3)]) M.1 M.2.1 dL_isTold_4 hl (by decide) rfl (fun ls hl => ?_)
  exact w_L_isTold_6 M K a3  FU a3 0 0 _ _ _ _  hB (lv_sub hl [2, 3, 4, 5, 1, 0] rfl) hr
theorem c_L_isTold (l : Launch) (Γ : GG) (a3 : Int32)  (σ : Sg) (res : Int32 × Sg) (hr : f_L_isTold_0 a3 σ = some res) : Met l yL_isTold (Cond.code yL_isTold cL_isTold 7 (some .boolean) :: gtb) rm_L_isTold (va_Pc [.ref (Γ.1 0), .ref (Γ.1 150), .ref (Γ.1 151), .int a3] (GI Γ σ)) (QI Γ res) 0 0 (AD Γ) :=
  x_metI (by decide) [.ref (Γ.1 0), .ref (Γ.1 150), .ref (Γ.1 151), .int a3] (Nat.le_of_ble_eq_true rfl) (fun p e s m args below meth c M K ls hl hB => w_L_isTold_0 M K a3 σ _ _ ls hB hl hr)
end
section
abbrev rm_L_law : Room := room_1
def f_L_law_577 (D : SD) (n : Int32)  (s0 : Int32) (σ : Sg) : Option (Int32 × Sg) :=
some (s0, σ)
set_option maxHeartbeats 4000000 in
set_option maxRecDepth 100000 in
theorem w_L_law_577 {p : Program} {l : Launch} {e : Env} {s : State} {m : MethodId} {args : Array Value} {below : List Frame} {meth : Method} {c : Code} {Γ : GG} {res : Int32 × Sg} {cells slots : Nat} {Q : State → Prop} (M : MX RL cL_law 10 (some .boolean) p s m args meth c) (K : KK Γ s s.heap) (hz : cells ≤ room_1.cells ∧ slots ≤ room_1.slots) (hR : RT Γ p l e s m args below meth c cells slots Q res) {D : SD} (hD : gX Γ = D) (n : Int32) (s0 : Int32) (σ : Sg) (H : Heap) (locs : List Loc) (ls : Array Slot)  (hB : Bd Γ σ s H locs) (hl : lv_has ls 10 []) (hr : f_L_law_577 D n  s0 σ = some res) : WLw cells slots Q Γ rm_L_law p l e s m args below meth c H locs res (F0 m 577 ls [.int s0]) := by
  unfold f_L_law_577 at hr
  exact hR _ _ _ _ _ _ (Option.some.inj hr) dL_law_577 hB
def f_L_law_557 (D : SD) (n : Int32)   (σ : Sg) : Option (Int32 × Sg) :=
some (0, σ)
set_option maxHeartbeats 4000000 in
set_option maxRecDepth 100000 in
theorem w_L_law_557 {p : Program} {l : Launch} {e : Env} {s : State} {m : MethodId} {args : Array Value} {below : List Frame} {meth : Method} {c : Code} {Γ : GG} {res : Int32 × Sg} {cells slots : Nat} {Q : State → Prop} (M : MX RL cL_law 10 (some .boolean) p s m args meth c) (K : KK Γ s s.heap) (hz : cells ≤ room_1.cells ∧ slots ≤ room_1.slots) (hR : RT Γ p l e s m args below meth c cells slots Q res) {D : SD} (hD : gX Γ = D) (n : Int32)  (σ : Sg) (H : Heap) (locs : List Loc) (ls : Array Slot)  (hB : Bd Γ σ s H locs) (hl : lv_has ls 10 []) (hr : f_L_law_557 D n   σ = some res) : WLw cells slots Q Γ rm_L_law p l e s m args below meth c H locs res (F0 m 557 ls []) := by
  unfold f_L_law_557 at hr
  refine lv_iconst (v := 0) M.1 M.2.1 dL_law_557 (by decide) ?_
  exact hR _ _ _ _ _ _ (Option.some.inj hr) dL_law_558 hB
def f_L_law_532 (D : SD) (n : Int32) (rec_490 : Int32 → Int32 → Int32 → Int32 → Sg → Option (Int32 × Sg)) (x2 : Int32) (x6 : Int32) (x8 : Int32) (s0 : Int32) (σ : Sg) : Option (Int32 × Sg) :=
cb (f_X4_run_0 1 σ) fun v_149 σ_150 =>
if v_149 = x8 + 1 then
cb (f_L_isTold_0 x2 σ_150) fun v_153 σ_154 =>
if v_153 = 0 then
f_L_law_557 D n   σ_154
else
rec_490 x2 x6 s0 (x8 + 1) σ_154
else
f_L_law_557 D n   σ_150
set_option maxHeartbeats 4000000 in
set_option maxRecDepth 100000 in
theorem w_L_law_532 {p : Program} {l : Launch} {e : Env} {s : State} {m : MethodId} {args : Array Value} {below : List Frame} {meth : Method} {c : Code} {Γ : GG} {res : Int32 × Sg} {cells slots : Nat} {Q : State → Prop} (M : MX RL cL_law 10 (some .boolean) p s m args meth c) (K : KK Γ s s.heap) (hz : cells ≤ room_1.cells ∧ slots ≤ room_1.slots) (hR : RT Γ p l e s m args below meth c cells slots Q res) {D : SD} (hD : gX Γ = D) (n : Int32) (rec_490 : Int32 → Int32 → Int32 → Int32 → Sg → Option (Int32 × Sg)) (ih_490 : ∀ (x2 : Int32) (x6 : Int32) (x7 : Int32) (x8 : Int32) (σ : Sg) (H : Heap) (locs : List Loc) (ls : Array Slot) , Bd Γ σ s H locs → lv_has ls 10 [(1, .ref (Γ.1 0)), (2, .int x2), (3, .ref (Γ.1 150)), (4, .ref (Γ.1 151)), (5, .ref (Γ.1 152)), (6, .int x6), (7, .int x7), (8, .int x8)] → rec_490 x2 x6 x7 x8 σ = some res → WLw cells slots Q Γ rm_L_law p l e s m args below meth c H locs res (F0 m 490 ls [])) (x2 : Int32) (x6 : Int32) (x8 : Int32) (s0 : Int32) (σ : Sg) (H : Heap) (locs : List Loc) (ls : Array Slot)  (hB : Bd Γ σ s H locs) (hl : lv_has ls 10 [(1, .ref (Γ.1 0)), (2, .int x2), (3, .ref (Γ.1 150)), (4, .ref (Γ.1 151)), (5, .ref (Γ.1 152)), (6, .int x6), (8, .int x8)]) (hr : f_L_law_532 D n rec_490 x2 x6 x8 s0 σ = some res) : WLw cells slots Q Γ rm_L_law p l e s m args below meth c H locs res (F0 m 532 ls [.int s0]) := by
  unfold f_L_law_532 at hr
  refine lv_istore (lv' := [(7, .int s0), (1, .ref (Γ.1 0)), (2, .int x2), (3, .ref (Γ.1 150)), (4, .ref (Γ.1 151)), (5, .ref (Γ.1 152)), (6, .int x6), (8, .int x8)]) M.1 M.2.1 dL_law_532 hl (by decide) rfl (fun ls hl => ?_)
  refine lv_aload_n M.1 M.2.1 dL_law_534 rfl (lv_at hl 1 rfl) ?_
  refine lv_iconst (v := 1) M.1 M.2.1 dL_law_535 (by decide) ?_
  obtain ⟨v_149, σ_150, h_151, hr⟩ := cbd hr
  refine x_callI (x_runV M K hB hl.1 [.int 1] (rest := []) rfl (c_X4_run l Γ 1  σ (v_149, σ_150) h_151) cy_X4_run (x_recv K hB isK_0.2 (ent_4 isK_0.1) rfl) wd_120 ⟨rfl, rfl, Nat.le_of_ble_eq_true rfl, Nat.le_of_ble_eq_true rfl⟩ (Nat.le_of_ble_eq_true rfl) hz dL_law_536) hB (fun H locs hB => ?_)
  replace hB : Bd Γ σ_150 s H locs := hB
  refine lv_iload M.1 M.2.1 dL_law_539 (lv_at hl 7 rfl) ?_
  refine lv_iconst (v := 1) M.1 M.2.1 dL_law_541 (by decide) ?_
  refine lv_iadd M.1 M.2.1 dL_law_542 ?_
  refine lv_icmp_ne (tgt := 557) M.1 M.2.1 dL_law_543 (by decide) (fun c_152 => ?_) (fun c_152 => ?_)
  · rw [if_neg c_152] at hr
    exact w_L_law_557 M K hz hR hD n   _ _ _ _  hB (lv_sub hl [] rfl) hr
  · rw [if_pos c_152] at hr
    refine lv_aload_n M.1 M.2.1 dL_law_546 rfl (lv_at hl 1 rfl) ?_
    refine lv_aload_n M.1 M.2.1 dL_law_547 rfl (lv_at hl 3 rfl) ?_
    refine lv_aload M.1 M.2.1 dL_law_548 (lv_at hl 4 rfl) ?_
    refine lv_iload_n M.1 M.2.1 dL_law_550 rfl (lv_at hl 2 rfl) ?_
    obtain ⟨v_153, σ_154, h_155, hr⟩ := cbd hr
    refine x_callI (x_runS M K hB hl.1 [.ref (Γ.1 0), .ref (Γ.1 150), .ref (Γ.1 151), .int x2] (rest := []) rfl (c_L_isTold l Γ x2  σ_150 (v_153, σ_154) h_155) cy_L_isTold wd_121 ⟨rfl, rfl, Nat.le_of_ble_eq_true rfl, Nat.le_of_ble_eq_true rfl⟩ (Nat.le_of_ble_eq_true rfl) hz dL_law_551) hB (fun H locs hB => ?_)
    replace hB : Bd Γ σ_154 s H locs := hB
    refine lv_if_ne (tgt := 559) M.1 M.2.1 dL_law_554 (by decide) (fun c_156 => ?_) (fun c_156 => ?_)
    · rw [if_neg c_156] at hr
      refine lv_iinc (v := x8 + 1) (lv' := [(8, .int (x8 + 1)), (7, .int s0), (1, .ref (Γ.1 0)), (2, .int x2), (3, .ref (Γ.1 150)), (4, .ref (Γ.1 151)), (5, .ref (Γ.1 152)), (6, .int x6)]) M.1 M.2.1 dL_law_559 hl (k := 7) rfl rfl (by decide) rfl (fun ls hl => ?_)
      refine lv_goto (tgt := 490) M.1 M.2.1 dL_law_562 (by decide) ?_
      exact ih_490 x2 x6 s0 (x8 + 1) _ _ _ _  hB (lv_sub hl [2, 3, 4, 5, 6, 7, 1, 0] rfl) hr
    · rw [if_pos c_156] at hr
      exact w_L_law_557 M K hz hR hD n   _ _ _ _  hB (lv_sub hl [] rfl) hr
def f_L_law_530 (D : SD) (n : Int32) (rec_490 : Int32 → Int32 → Int32 → Int32 → Sg → Option (Int32 × Sg)) (x2 : Int32) (x6 : Int32) (x7 : Int32) (x8 : Int32) (σ : Sg) : Option (Int32 × Sg) :=
f_L_law_532 D n rec_490 x2 x6 x8 x7 σ
set_option maxHeartbeats 4000000 in
set_option maxRecDepth 100000 in
theorem w_L_law_530 {p : Program} {l : Launch} {e : Env} {s : State} {m : MethodId} {args : Array Value} {below : List Frame} {meth : Method} {c : Code} {Γ : GG} {res : Int32 × Sg} {cells slots : Nat} {Q : State → Prop} (M : MX RL cL_law 10 (some .boolean) p s m args meth c) (K : KK Γ s s.heap) (hz : cells ≤ room_1.cells ∧ slots ≤ room_1.slots) (hR : RT Γ p l e s m args below meth c cells slots Q res) {D : SD} (hD : gX Γ = D) (n : Int32) (rec_490 : Int32 → Int32 → Int32 → Int32 → Sg → Option (Int32 × Sg)) (ih_490 : ∀ (x2 : Int32) (x6 : Int32) (x7 : Int32) (x8 : Int32) (σ : Sg) (H : Heap) (locs : List Loc) (ls : Array Slot) , Bd Γ σ s H locs → lv_has ls 10 [(1, .ref (Γ.1 0)), (2, .int x2), (3, .ref (Γ.1 150)), (4, .ref (Γ.1 151)), (5, .ref (Γ.1 152)), (6, .int x6), (7, .int x7), (8, .int x8)] → rec_490 x2 x6 x7 x8 σ = some res → WLw cells slots Q Γ rm_L_law p l e s m args below meth c H locs res (F0 m 490 ls [])) (x2 : Int32) (x6 : Int32) (x7 : Int32) (x8 : Int32) (σ : Sg) (H : Heap) (locs : List Loc) (ls : Array Slot)  (hB : Bd Γ σ s H locs) (hl : lv_has ls 10 [(1, .ref (Γ.1 0)), (2, .int x2), (3, .ref (Γ.1 150)), (4, .ref (Γ.1 151)), (5, .ref (Γ.1 152)), (6, .int x6), (7, .int x7), (8, .int x8)]) (hr : f_L_law_530 D n rec_490 x2 x6 x7 x8 σ = some res) : WLw cells slots Q Γ rm_L_law p l e s m args below meth c H locs res (F0 m 530 ls []) := by
  unfold f_L_law_530 at hr
  refine lv_iload M.1 M.2.1 dL_law_530 (lv_at hl 6 rfl) ?_
  exact w_L_law_532 M K hz hR hD n _ ih_490 x2 x6 x8 x7 _ _ _ _  hB (lv_sub hl [0, 1, 2, 3, 4, 5, 7] rfl) hr
def f_L_law_490 (D : SD) (n : Int32)  : Nat → Int32 → Int32 → Int32 → Int32 → Sg → Option (Int32 × Sg)
  | 0, _, _, _, _, _ => none
  | f + 1, x2, x6, x7, x8, σ => if 150 ≤ x8 then
if x6 = x7 then
f_L_law_577 D n  1 σ
else
f_L_law_577 D n  0 σ
else
cb (f_L_tick_0 x2 x8 σ) fun v_144 σ_145 =>
if 0 ≤ x7 then
f_L_law_530 D n (f_L_law_490 D n  f) x2 x6 x7 x8 σ_145
else
if σ_145 150 8 = 1 then
f_L_law_532 D n (f_L_law_490 D n  f) x2 x6 x8 (x8 + 1) σ_145
else
f_L_law_530 D n (f_L_law_490 D n  f) x2 x6 x7 x8 σ_145
set_option maxHeartbeats 4000000 in
set_option maxRecDepth 100000 in
theorem w_L_law_490 {p : Program} {l : Launch} {e : Env} {s : State} {m : MethodId} {args : Array Value} {below : List Frame} {meth : Method} {c : Code} {Γ : GG} {res : Int32 × Sg} {cells slots : Nat} {Q : State → Prop} (M : MX RL cL_law 10 (some .boolean) p s m args meth c) (K : KK Γ s s.heap) (hz : cells ≤ room_1.cells ∧ slots ≤ room_1.slots) (hR : RT Γ p l e s m args below meth c cells slots Q res) {D : SD} (hD : gX Γ = D) (n : Int32) : ∀ (f : Nat) (x2 : Int32) (x6 : Int32) (x7 : Int32) (x8 : Int32) (σ : Sg) (H : Heap) (locs : List Loc) (ls : Array Slot)  (hB : Bd Γ σ s H locs) (hl : lv_has ls 10 [(1, .ref (Γ.1 0)), (2, .int x2), (3, .ref (Γ.1 150)), (4, .ref (Γ.1 151)), (5, .ref (Γ.1 152)), (6, .int x6), (7, .int x7), (8, .int x8)]) (hr : f_L_law_490 D n  f x2 x6 x7 x8 σ = some res), WLw cells slots Q Γ rm_L_law p l e s m args below meth c H locs res (F0 m 490 ls []) := by
  intro f
  induction f with
  | zero => intros; rename_i hr; exact absurd hr (by rw [f_L_law_490]; exact fun h => by cases h)
  | succ f ih_490 =>
    intro x2 x6 x7 x8 σ H locs ls  hB hl hr
    rw [f_L_law_490] at hr
    refine lv_iload M.1 M.2.1 dL_law_490 (lv_at hl 7 rfl) ?_
    refine lv_sipush (v := 150) M.1 M.2.1 dL_law_492 (by decide) ?_
    refine lv_icmp_ge (tgt := 565) M.1 M.2.1 dL_law_495 (by decide) (fun c_142 => ?_) (fun c_142 => ?_)
    · rw [if_pos c_142] at hr
      refine lv_iload M.1 M.2.1 dL_law_565 (lv_at hl 5 rfl) ?_
      refine lv_iload M.1 M.2.1 dL_law_567 (lv_at hl 6 rfl) ?_
      refine lv_icmp_ne (tgt := 576) M.1 M.2.1 dL_law_569 (by decide) (fun c_143 => ?_) (fun c_143 => ?_)
      · rw [if_neg c_143] at hr
        refine lv_iconst (v := 0) M.1 M.2.1 dL_law_576 (by decide) ?_
        exact w_L_law_577 M K hz hR hD n  0 _ _ _ _  hB (lv_sub hl [] rfl) hr
      · rw [if_pos c_143] at hr
        refine lv_iconst (v := 1) M.1 M.2.1 dL_law_572 (by decide) ?_
        refine lv_goto (tgt := 577) M.1 M.2.1 dL_law_573 (by decide) ?_
        exact w_L_law_577 M K hz hR hD n  1 _ _ _ _  hB (lv_sub hl [] rfl) hr
    · rw [if_neg c_142] at hr
      refine lv_aload_n M.1 M.2.1 dL_law_498 rfl (lv_at hl 0 rfl) ?_
      refine lv_aload_n M.1 M.2.1 dL_law_499 rfl (lv_at hl 2 rfl) ?_
      refine lv_aload M.1 M.2.1 dL_law_500 (lv_at hl 3 rfl) ?_
      refine lv_aload M.1 M.2.1 dL_law_502 (lv_at hl 4 rfl) ?_
      refine lv_iload_n M.1 M.2.1 dL_law_504 rfl (lv_at hl 1 rfl) ?_
      refine lv_iload M.1 M.2.1 dL_law_505 (lv_at hl 7 rfl) ?_
      obtain ⟨v_144, σ_145, h_146, hr⟩ := cbd hr
      refine x_callV (x_runS M K hB hl.1 [.ref (Γ.1 0), .ref (Γ.1 150), .ref (Γ.1 151), .ref (Γ.1 152), .int x2, .int x8] (rest := []) rfl (c_L_tick l Γ x2 x8  σ (v_144, σ_145) h_146) cy_L_tick wd_119 ⟨rfl, rfl, Nat.le_of_ble_eq_true rfl, Nat.le_of_ble_eq_true rfl⟩ (Nat.le_of_ble_eq_true rfl) hz dL_law_507) hB (fun H locs hB => ?_)
      replace hB : Bd Γ σ_145 s H locs := hB
      refine lv_iload M.1 M.2.1 dL_law_510 (lv_at hl 6 rfl) ?_
      refine lv_if_ge (tgt := 530) M.1 M.2.1 dL_law_512 (by decide) (fun c_147 => ?_) (fun c_147 => ?_)
      · rw [if_pos c_147] at hr
        exact w_L_law_530 M K hz hR hD n _ ih_490 x2 x6 x7 x8 _ _ _ _  hB (lv_sub hl [0, 1, 2, 3, 4, 5, 6, 7] rfl) hr
      · rw [if_neg c_147] at hr
        refine lv_aload_n M.1 M.2.1 dL_law_515 rfl (lv_at hl 2 rfl) ?_
        refine lv_bipush (v := 8) M.1 M.2.1 dL_law_516 (by decide) ?_
        refine x_ialdL M K hB isA_150 (k := 8) (by decide) (by decide) dL_law_518 ?_
        refine lv_iconst (v := 1) M.1 M.2.1 dL_law_519 (by decide) ?_
        refine lv_icmp_ne (tgt := 530) M.1 M.2.1 dL_law_520 (by decide) (fun c_148 => ?_) (fun c_148 => ?_)
        · rw [if_neg c_148] at hr
          exact w_L_law_530 M K hz hR hD n _ ih_490 x2 x6 x7 x8 _ _ _ _  hB (lv_sub hl [0, 1, 2, 3, 4, 5, 6, 7] rfl) hr
        · rw [if_pos c_148] at hr
          refine lv_iload M.1 M.2.1 dL_law_523 (lv_at hl 7 rfl) ?_
          refine lv_iconst (v := 1) M.1 M.2.1 dL_law_525 (by decide) ?_
          refine lv_iadd M.1 M.2.1 dL_law_526 ?_
          refine lv_goto (tgt := 532) M.1 M.2.1 dL_law_527 (by decide) ?_
          exact w_L_law_532 M K hz hR hD n _ ih_490 x2 x6 x8 (x8 + 1) _ _ _ _  hB (lv_sub hl [0, 1, 2, 3, 4, 5, 7] rfl) hr
def f_L_law_474 (D : SD) (n : Int32)  (x2 : Int32) (σ : Sg) : Option (Int32 × Sg) :=
cb (f_X4_forecast_0 150 σ) fun v_139 σ_140 =>
f_L_law_490 D n  FU x2 v_139 (-6) 0 σ_140
set_option maxHeartbeats 4000000 in
set_option maxRecDepth 100000 in
theorem w_L_law_474 {p : Program} {l : Launch} {e : Env} {s : State} {m : MethodId} {args : Array Value} {below : List Frame} {meth : Method} {c : Code} {Γ : GG} {res : Int32 × Sg} {cells slots : Nat} {Q : State → Prop} (M : MX RL cL_law 10 (some .boolean) p s m args meth c) (K : KK Γ s s.heap) (hz : cells ≤ room_1.cells ∧ slots ≤ room_1.slots) (hR : RT Γ p l e s m args below meth c cells slots Q res) {D : SD} (hD : gX Γ = D) (n : Int32) (x2 : Int32) (σ : Sg) (H : Heap) (locs : List Loc) (ls : Array Slot)  (hB : Bd Γ σ s H locs) (hl : lv_has ls 10 [(1, .ref (Γ.1 0)), (2, .int x2), (3, .ref (Γ.1 150)), (4, .ref (Γ.1 151)), (5, .ref (Γ.1 152))]) (hr : f_L_law_474 D n  x2 σ = some res) : WLw cells slots Q Γ rm_L_law p l e s m args below meth c H locs res (F0 m 474 ls []) := by
  unfold f_L_law_474 at hr
  refine lv_aload_n M.1 M.2.1 dL_law_474 rfl (lv_at hl 0 rfl) ?_
  refine lv_sipush (v := 150) M.1 M.2.1 dL_law_475 (by decide) ?_
  obtain ⟨v_139, σ_140, h_141, hr⟩ := cbd hr
  refine x_callI (x_runV M K hB hl.1 [.int 150] (rest := []) rfl (c_X4_forecast l Γ 150  σ (v_139, σ_140) h_141) cy_X4_forecast (x_recv K hB isK_0.2 (ent_4 isK_0.1) rfl) wd_118 ⟨rfl, rfl, Nat.le_of_ble_eq_true rfl, Nat.le_of_ble_eq_true rfl⟩ (Nat.le_of_ble_eq_true rfl) hz dL_law_478) hB (fun H locs hB => ?_)
  replace hB : Bd Γ σ_140 s H locs := hB
  refine lv_istore (lv' := [(6, .int v_139), (1, .ref (Γ.1 0)), (2, .int x2), (3, .ref (Γ.1 150)), (4, .ref (Γ.1 151)), (5, .ref (Γ.1 152))]) M.1 M.2.1 dL_law_481 hl (by decide) rfl (fun ls hl => ?_)
  refine lv_bipush (v := (-6)) M.1 M.2.1 dL_law_483 (by decide) ?_
  refine lv_istore (lv' := [(7, .int (-6)), (6, .int v_139), (1, .ref (Γ.1 0)), (2, .int x2), (3, .ref (Γ.1 150)), (4, .ref (Γ.1 151)), (5, .ref (Γ.1 152))]) M.1 M.2.1 dL_law_485 hl (by decide) rfl (fun ls hl => ?_)
  refine lv_iconst (v := 0) M.1 M.2.1 dL_law_487 (by decide) ?_
  refine lv_istore (lv' := [(8, .int 0), (7, .int (-6)), (6, .int v_139), (1, .ref (Γ.1 0)), (2, .int x2), (3, .ref (Γ.1 150)), (4, .ref (Γ.1 151)), (5, .ref (Γ.1 152))]) M.1 M.2.1 dL_law_488 hl (by decide) rfl (fun ls hl => ?_)
  exact w_L_law_490 M K hz hR hD n  FU x2 v_139 (-6) 0 _ _ _ _  hB (lv_sub hl [3, 4, 5, 6, 7, 2, 1, 0] rfl) hr
def f_L_law_369 (D : SD) (n : Int32) (rec_160 : Int32 → Int32 → Sg → Option (Int32 × Sg)) (rec_319 : Int32 → Int32 → Int32 → Sg → Option (Int32 × Sg)) (x2 : Int32) (x6 : Int32) (x8 : Int32) (x9 : Int32) (s0 : Int32) (s1 : Int32) (σ : Sg) : Option (Int32 × Sg) :=
if s1 < 0 ∨ 18 ≤ s1.toNatClampNeg then none else
wb (st σ 152 (s1.toNatClampNeg) s0) fun σ_118 =>
cb (f_L_cell_0 D (x9 + 36) 60 σ_118) fun v_120 σ_121 =>
if x9 + 1 < 0 ∨ 18 ≤ (x9 + 1).toNatClampNeg then none else
wb (st σ_121 152 ((x9 + 1).toNatClampNeg) v_120) fun σ_124 =>
cb (f_L_cell_0 D (x9 + 37) 15 σ_124) fun v_126 σ_127 =>
if x9 + 2 < 0 ∨ 18 ≤ (x9 + 2).toNatClampNeg then none else
wb (st σ_127 152 ((x9 + 2).toNatClampNeg) v_126) fun σ_130 =>
if x9 < 0 ∨ 18 ≤ x9.toNatClampNeg then none else
if x9 + 1 < 0 ∨ 18 ≤ (x9 + 1).toNatClampNeg then none else
if x9 + 2 < 0 ∨ 18 ≤ (x9 + 2).toNatClampNeg then none else
cb (f_X4_putFault_0 x8 x6 (σ_130 152 (x9.toNatClampNeg)) (σ_130 152 ((x9 + 1).toNatClampNeg)) (σ_130 152 ((x9 + 2).toNatClampNeg)) σ_130) fun v_135 σ_136 =>
if v_135 = 0 then
rec_319 x2 x6 (x8 + 1) σ_136
else
some (0, σ_136)
set_option maxHeartbeats 4000000 in
set_option maxRecDepth 100000 in
theorem w_L_law_369 {p : Program} {l : Launch} {e : Env} {s : State} {m : MethodId} {args : Array Value} {below : List Frame} {meth : Method} {c : Code} {Γ : GG} {res : Int32 × Sg} {cells slots : Nat} {Q : State → Prop} (M : MX RL cL_law 10 (some .boolean) p s m args meth c) (K : KK Γ s s.heap) (hz : cells ≤ room_1.cells ∧ slots ≤ room_1.slots) (hR : RT Γ p l e s m args below meth c cells slots Q res) {D : SD} (hD : gX Γ = D) (n : Int32) (rec_160 : Int32 → Int32 → Sg → Option (Int32 × Sg)) (ih_160 : ∀ (x2 : Int32) (x6 : Int32) (σ : Sg) (H : Heap) (locs : List Loc) (ls : Array Slot) , Bd Γ σ s H locs → lv_has ls 10 [(0, .ref (gS Γ 6)), (1, .ref (Γ.1 0)), (2, .int x2), (3, .ref (Γ.1 150)), (4, .ref (Γ.1 151)), (5, .ref (Γ.1 152)), (6, .int x6)] → rec_160 x2 x6 σ = some res → WLw cells slots Q Γ rm_L_law p l e s m args below meth c H locs res (F0 m 160 ls [])) (rec_319 : Int32 → Int32 → Int32 → Sg → Option (Int32 × Sg)) (ih_319 : ∀ (x2 : Int32) (x6 : Int32) (x8 : Int32) (σ : Sg) (H : Heap) (locs : List Loc) (ls : Array Slot) , Bd Γ σ s H locs → lv_has ls 10 [(0, .ref (gS Γ 6)), (1, .ref (Γ.1 0)), (2, .int x2), (3, .ref (Γ.1 150)), (4, .ref (Γ.1 151)), (5, .ref (Γ.1 152)), (6, .int x6), (8, .int x8)] → rec_319 x2 x6 x8 σ = some res → WLw cells slots Q Γ rm_L_law p l e s m args below meth c H locs res (F0 m 319 ls [])) (x2 : Int32) (x6 : Int32) (x8 : Int32) (x9 : Int32) (s0 : Int32) (s1 : Int32) (σ : Sg) (H : Heap) (locs : List Loc) (ls : Array Slot)  (hB : Bd Γ σ s H locs) (hl : lv_has ls 10 [(0, .ref (gS Γ 6)), (1, .ref (Γ.1 0)), (2, .int x2), (3, .ref (Γ.1 150)), (4, .ref (Γ.1 151)), (5, .ref (Γ.1 152)), (6, .int x6), (8, .int x8), (9, .int x9)]) (hr : f_L_law_369 D n rec_160 rec_319 x2 x6 x8 x9 s0 s1 σ = some res) : WLw cells slots Q Γ rm_L_law p l e s m args below meth c H locs res (F0 m 369 ls [.int s0, .int s1, .ref (Γ.1 152)]) := by
  unfold f_L_law_369 at hr
  obtain ⟨g_117, hr⟩ := gd hr
  obtain ⟨σ_118, e_119, hr⟩ := wbd hr
  refine x_iast M K hB isA_152 g_117 dL_law_369 (fun H locs hB => ?_)
  rw [← e_119] at hB
  refine lv_aload M.1 M.2.1 dL_law_370 (lv_at hl 5 rfl) ?_
  refine lv_iload M.1 M.2.1 dL_law_372 (lv_at hl 8 rfl) ?_
  refine lv_iconst (v := 1) M.1 M.2.1 dL_law_374 (by decide) ?_
  refine lv_iadd M.1 M.2.1 dL_law_375 ?_
  refine lv_aload_n M.1 M.2.1 dL_law_376 rfl (lv_at hl 0 rfl) ?_
  refine lv_iload M.1 M.2.1 dL_law_377 (lv_at hl 8 rfl) ?_
  refine lv_bipush (v := 36) M.1 M.2.1 dL_law_379 (by decide) ?_
  refine lv_iadd M.1 M.2.1 dL_law_381 ?_
  refine lv_bipush (v := 60) M.1 M.2.1 dL_law_382 (by decide) ?_
  obtain ⟨v_120, σ_121, h_122, hr⟩ := cbd hr
  refine x_callI (x_runS M K hB hl.1 [.ref (gS Γ 6), .int (x9 + 36), .int 60] (rest := [.int (x9 + 1), .ref (Γ.1 152)]) rfl (c_L_cell l Γ D (x9 + 36) 60 hD σ_118 (v_120, σ_121) h_122) cy_L_cell wd_112 ⟨rfl, rfl, Nat.le_of_ble_eq_true rfl, Nat.le_of_ble_eq_true rfl⟩ (Nat.le_of_ble_eq_true rfl) hz dL_law_384) hB (fun H locs hB => ?_)
  replace hB : Bd Γ σ_121 s H locs := hB
  obtain ⟨g_123, hr⟩ := gd hr
  obtain ⟨σ_124, e_125, hr⟩ := wbd hr
  refine x_iast M K hB isA_152 g_123 dL_law_387 (fun H locs hB => ?_)
  rw [← e_125] at hB
  refine lv_aload M.1 M.2.1 dL_law_388 (lv_at hl 5 rfl) ?_
  refine lv_iload M.1 M.2.1 dL_law_390 (lv_at hl 8 rfl) ?_
  refine lv_iconst (v := 2) M.1 M.2.1 dL_law_392 (by decide) ?_
  refine lv_iadd M.1 M.2.1 dL_law_393 ?_
  refine lv_aload_n M.1 M.2.1 dL_law_394 rfl (lv_at hl 0 rfl) ?_
  refine lv_iload M.1 M.2.1 dL_law_395 (lv_at hl 8 rfl) ?_
  refine lv_bipush (v := 37) M.1 M.2.1 dL_law_397 (by decide) ?_
  refine lv_iadd M.1 M.2.1 dL_law_399 ?_
  refine lv_bipush (v := 15) M.1 M.2.1 dL_law_400 (by decide) ?_
  obtain ⟨v_126, σ_127, h_128, hr⟩ := cbd hr
  refine x_callI (x_runS M K hB hl.1 [.ref (gS Γ 6), .int (x9 + 37), .int 15] (rest := [.int (x9 + 2), .ref (Γ.1 152)]) rfl (c_L_cell l Γ D (x9 + 37) 15 hD σ_124 (v_126, σ_127) h_128) cy_L_cell wd_112 ⟨rfl, rfl, Nat.le_of_ble_eq_true rfl, Nat.le_of_ble_eq_true rfl⟩ (Nat.le_of_ble_eq_true rfl) hz dL_law_402) hB (fun H locs hB => ?_)
  replace hB : Bd Γ σ_127 s H locs := hB
  obtain ⟨g_129, hr⟩ := gd hr
  obtain ⟨σ_130, e_131, hr⟩ := wbd hr
  refine x_iast M K hB isA_152 g_129 dL_law_405 (fun H locs hB => ?_)
  rw [← e_131] at hB
  refine lv_aload_n M.1 M.2.1 dL_law_406 rfl (lv_at hl 1 rfl) ?_
  refine lv_iload M.1 M.2.1 dL_law_407 (lv_at hl 7 rfl) ?_
  refine lv_iload M.1 M.2.1 dL_law_409 (lv_at hl 6 rfl) ?_
  refine lv_aload M.1 M.2.1 dL_law_411 (lv_at hl 5 rfl) ?_
  refine lv_iload M.1 M.2.1 dL_law_413 (lv_at hl 8 rfl) ?_
  obtain ⟨g_132, hr⟩ := gd hr
  refine x_iald M K hB isA_152 g_132 dL_law_415 ?_
  refine lv_aload M.1 M.2.1 dL_law_416 (lv_at hl 5 rfl) ?_
  refine lv_iload M.1 M.2.1 dL_law_418 (lv_at hl 8 rfl) ?_
  refine lv_iconst (v := 1) M.1 M.2.1 dL_law_420 (by decide) ?_
  refine lv_iadd M.1 M.2.1 dL_law_421 ?_
  obtain ⟨g_133, hr⟩ := gd hr
  refine x_iald M K hB isA_152 g_133 dL_law_422 ?_
  refine lv_aload M.1 M.2.1 dL_law_423 (lv_at hl 5 rfl) ?_
  refine lv_iload M.1 M.2.1 dL_law_425 (lv_at hl 8 rfl) ?_
  refine lv_iconst (v := 2) M.1 M.2.1 dL_law_427 (by decide) ?_
  refine lv_iadd M.1 M.2.1 dL_law_428 ?_
  obtain ⟨g_134, hr⟩ := gd hr
  refine x_iald M K hB isA_152 g_134 dL_law_429 ?_
  obtain ⟨v_135, σ_136, h_137, hr⟩ := cbd hr
  refine x_callI (x_runV M K hB hl.1 [.int x8, .int x6, .int (σ_130 152 (x9.toNatClampNeg)), .int (σ_130 152 ((x9 + 1).toNatClampNeg)), .int (σ_130 152 ((x9 + 2).toNatClampNeg))] (rest := []) rfl (c_X4_putFault l Γ x8 x6 (σ_130 152 (x9.toNatClampNeg)) (σ_130 152 ((x9 + 1).toNatClampNeg)) (σ_130 152 ((x9 + 2).toNatClampNeg))  σ_130 (v_135, σ_136) h_137) cy_X4_putFault (x_recv K hB isK_0.2 (ent_4 isK_0.1) rfl) wd_117 ⟨rfl, rfl, Nat.le_of_ble_eq_true rfl, Nat.le_of_ble_eq_true rfl⟩ (Nat.le_of_ble_eq_true rfl) hz dL_law_430) hB (fun H locs hB => ?_)
  replace hB : Bd Γ σ_136 s H locs := hB
  refine lv_if_eq (tgt := 438) M.1 M.2.1 dL_law_433 (by decide) (fun c_138 => ?_) (fun c_138 => ?_)
  · rw [if_pos c_138] at hr
    refine lv_iinc (v := x8 + 1) (lv' := [(8, .int (x8 + 1)), (0, .ref (gS Γ 6)), (1, .ref (Γ.1 0)), (2, .int x2), (3, .ref (Γ.1 150)), (4, .ref (Γ.1 151)), (5, .ref (Γ.1 152)), (6, .int x6), (9, .int x9)]) M.1 M.2.1 dL_law_438 hl (k := 7) rfl rfl (by decide) rfl (fun ls hl => ?_)
    refine lv_goto (tgt := 319) M.1 M.2.1 dL_law_441 (by decide) ?_
    exact ih_319 x2 x6 (x8 + 1) _ _ _ _  hB (lv_sub hl [1, 2, 3, 4, 5, 6, 7, 0] rfl) hr
  · rw [if_neg c_138] at hr
    refine lv_iconst (v := 0) M.1 M.2.1 dL_law_436 (by decide) ?_
    exact hR _ _ _ _ _ _ (Option.some.inj hr) dL_law_437 hB
def f_L_law_319 (D : SD) (n : Int32) (rec_160 : Int32 → Int32 → Sg → Option (Int32 × Sg)) : Nat → Int32 → Int32 → Int32 → Sg → Option (Int32 × Sg)
  | 0, _, _, _, _ => none
  | f + 1, x2, x6, x8, σ => if 2 ≤ x8 then
rec_160 x2 (x6 + 1) σ
else
cb (f_L_cell_0 D (((9 * x8) + (3 * x6)) + 34) 3 σ) fun v_110 σ_111 =>
if v_110 = 0 then
cb (f_L_cell_0 D (((9 * x8) + (3 * x6)) + 35) 6 σ_111) fun v_114 σ_115 =>
f_L_law_369 D n rec_160 (f_L_law_319 D n rec_160 f) x2 x6 x8 ((9 * x8) + (3 * x6)) v_114 ((9 * x8) + (3 * x6)) σ_115
else
f_L_law_369 D n rec_160 (f_L_law_319 D n rec_160 f) x2 x6 x8 ((9 * x8) + (3 * x6)) 0 ((9 * x8) + (3 * x6)) σ_111
set_option maxHeartbeats 4000000 in
set_option maxRecDepth 100000 in
theorem w_L_law_319 {p : Program} {l : Launch} {e : Env} {s : State} {m : MethodId} {args : Array Value} {below : List Frame} {meth : Method} {c : Code} {Γ : GG} {res : Int32 × Sg} {cells slots : Nat} {Q : State → Prop} (M : MX RL cL_law 10 (some .boolean) p s m args meth c) (K : KK Γ s s.heap) (hz : cells ≤ room_1.cells ∧ slots ≤ room_1.slots) (hR : RT Γ p l e s m args below meth c cells slots Q res) {D : SD} (hD : gX Γ = D) (n : Int32) (rec_160 : Int32 → Int32 → Sg → Option (Int32 × Sg)) (ih_160 : ∀ (x2 : Int32) (x6 : Int32) (σ : Sg) (H : Heap) (locs : List Loc) (ls : Array Slot) , Bd Γ σ s H locs → lv_has ls 10 [(0, .ref (gS Γ 6)), (1, .ref (Γ.1 0)), (2, .int x2), (3, .ref (Γ.1 150)), (4, .ref (Γ.1 151)), (5, .ref (Γ.1 152)), (6, .int x6)] → rec_160 x2 x6 σ = some res → WLw cells slots Q Γ rm_L_law p l e s m args below meth c H locs res (F0 m 160 ls [])) : ∀ (f : Nat) (x2 : Int32) (x6 : Int32) (x8 : Int32) (σ : Sg) (H : Heap) (locs : List Loc) (ls : Array Slot)  (hB : Bd Γ σ s H locs) (hl : lv_has ls 10 [(0, .ref (gS Γ 6)), (1, .ref (Γ.1 0)), (2, .int x2), (3, .ref (Γ.1 150)), (4, .ref (Γ.1 151)), (5, .ref (Γ.1 152)), (6, .int x6), (8, .int x8)]) (hr : f_L_law_319 D n rec_160 f x2 x6 x8 σ = some res), WLw cells slots Q Γ rm_L_law p l e s m args below meth c H locs res (F0 m 319 ls []) := by
  intro f
  induction f with
  | zero => intros; rename_i hr; exact absurd hr (by rw [f_L_law_319]; exact fun h => by cases h)
  | succ f ih_319 =>
    intro x2 x6 x8 σ H locs ls  hB hl hr
    rw [f_L_law_319] at hr
    refine lv_iload M.1 M.2.1 dL_law_319 (lv_at hl 7 rfl) ?_
    refine lv_iconst (v := 2) M.1 M.2.1 dL_law_321 (by decide) ?_
    refine lv_icmp_ge (tgt := 444) M.1 M.2.1 dL_law_322 (by decide) (fun c_109 => ?_) (fun c_109 => ?_)
    · rw [if_pos c_109] at hr
      refine lv_iinc (v := x6 + 1) (lv' := [(6, .int (x6 + 1)), (0, .ref (gS Γ 6)), (1, .ref (Γ.1 0)), (2, .int x2), (3, .ref (Γ.1 150)), (4, .ref (Γ.1 151)), (5, .ref (Γ.1 152)), (8, .int x8)]) M.1 M.2.1 dL_law_444 hl (k := 6) rfl rfl (by decide) rfl (fun ls hl => ?_)
      refine lv_goto (tgt := 160) M.1 M.2.1 dL_law_447 (by decide) ?_
      exact ih_160 x2 (x6 + 1) _ _ _ _  hB (lv_sub hl [1, 2, 3, 4, 5, 6, 0] rfl) hr
    · rw [if_neg c_109] at hr
      refine lv_bipush (v := 9) M.1 M.2.1 dL_law_325 (by decide) ?_
      refine lv_iload M.1 M.2.1 dL_law_327 (lv_at hl 7 rfl) ?_
      refine lv_imul M.1 M.2.1 dL_law_329 ?_
      refine lv_iconst (v := 3) M.1 M.2.1 dL_law_330 (by decide) ?_
      refine lv_iload M.1 M.2.1 dL_law_331 (lv_at hl 6 rfl) ?_
      refine lv_imul M.1 M.2.1 dL_law_333 ?_
      refine lv_iadd M.1 M.2.1 dL_law_334 ?_
      refine lv_istore (lv' := [(9, .int ((9 * x8) + (3 * x6))), (0, .ref (gS Γ 6)), (1, .ref (Γ.1 0)), (2, .int x2), (3, .ref (Γ.1 150)), (4, .ref (Γ.1 151)), (5, .ref (Γ.1 152)), (6, .int x6), (8, .int x8)]) M.1 M.2.1 dL_law_335 hl (by decide) rfl (fun ls hl => ?_)
      refine lv_aload M.1 M.2.1 dL_law_337 (lv_at hl 6 rfl) ?_
      refine lv_iload M.1 M.2.1 dL_law_339 (lv_at hl 0 rfl) ?_
      refine lv_aload_n M.1 M.2.1 dL_law_341 rfl (lv_at hl 1 rfl) ?_
      refine lv_iload M.1 M.2.1 dL_law_342 (lv_at hl 0 rfl) ?_
      refine lv_bipush (v := 34) M.1 M.2.1 dL_law_344 (by decide) ?_
      refine lv_iadd M.1 M.2.1 dL_law_346 ?_
      refine lv_iconst (v := 3) M.1 M.2.1 dL_law_347 (by decide) ?_
      obtain ⟨v_110, σ_111, h_112, hr⟩ := cbd hr
      refine x_callI (x_runS M K hB hl.1 [.ref (gS Γ 6), .int (((9 * x8) + (3 * x6)) + 34), .int 3] (rest := [.int ((9 * x8) + (3 * x6)), .ref (Γ.1 152)]) rfl (c_L_cell l Γ D (((9 * x8) + (3 * x6)) + 34) 3 hD σ (v_110, σ_111) h_112) cy_L_cell wd_112 ⟨rfl, rfl, Nat.le_of_ble_eq_true rfl, Nat.le_of_ble_eq_true rfl⟩ (Nat.le_of_ble_eq_true rfl) hz dL_law_348) hB (fun H locs hB => ?_)
      replace hB : Bd Γ σ_111 s H locs := hB
      refine lv_if_ne (tgt := 368) M.1 M.2.1 dL_law_351 (by decide) (fun c_113 => ?_) (fun c_113 => ?_)
      · rw [if_neg c_113] at hr
        refine lv_iconst (v := 0) M.1 M.2.1 dL_law_368 (by decide) ?_
        exact w_L_law_369 M K hz hR hD n _ ih_160 _ ih_319 x2 x6 x8 ((9 * x8) + (3 * x6)) 0 ((9 * x8) + (3 * x6)) _ _ _ _  hB (lv_sub hl [1, 2, 3, 4, 5, 6, 7, 8, 0] rfl) hr
      · rw [if_pos c_113] at hr
        refine lv_aload_n M.1 M.2.1 dL_law_354 rfl (lv_at hl 1 rfl) ?_
        refine lv_iload M.1 M.2.1 dL_law_355 (lv_at hl 0 rfl) ?_
        refine lv_bipush (v := 35) M.1 M.2.1 dL_law_357 (by decide) ?_
        refine lv_iadd M.1 M.2.1 dL_law_359 ?_
        refine lv_bipush (v := 6) M.1 M.2.1 dL_law_360 (by decide) ?_
        obtain ⟨v_114, σ_115, h_116, hr⟩ := cbd hr
        refine x_callI (x_runS M K hB hl.1 [.ref (gS Γ 6), .int (((9 * x8) + (3 * x6)) + 35), .int 6] (rest := [.int ((9 * x8) + (3 * x6)), .ref (Γ.1 152)]) rfl (c_L_cell l Γ D (((9 * x8) + (3 * x6)) + 35) 6 hD σ_111 (v_114, σ_115) h_116) cy_L_cell wd_112 ⟨rfl, rfl, Nat.le_of_ble_eq_true rfl, Nat.le_of_ble_eq_true rfl⟩ (Nat.le_of_ble_eq_true rfl) hz dL_law_362) hB (fun H locs hB => ?_)
        replace hB : Bd Γ σ_115 s H locs := hB
        refine lv_goto (tgt := 369) M.1 M.2.1 dL_law_365 (by decide) ?_
        exact w_L_law_369 M K hz hR hD n _ ih_160 _ ih_319 x2 x6 x8 ((9 * x8) + (3 * x6)) v_114 ((9 * x8) + (3 * x6)) _ _ _ _  hB (lv_sub hl [1, 2, 3, 4, 5, 6, 7, 8, 0] rfl) hr
def f_L_law_160 (D : SD) (n : Int32)  : Nat → Int32 → Int32 → Sg → Option (Int32 × Sg)
  | 0, _, _, _ => none
  | f + 1, x2, x6, σ => if x2 ≤ x6 then
cb (f_L_cell_0 D 60 2 σ) fun v_52 σ_53 =>
if v_52 = 0 then
cb (f_X4_state_0 18 σ_53) fun v_56 σ_57 =>
wb (st σ_57 150 3 v_56) fun σ_59 =>
cb (f_X4_powerCycle_0  σ_59) fun v_61 σ_62 =>
f_L_law_474 D n  x2 σ_62
else
f_L_law_474 D n  x2 σ_53
else
cb (f_L_cell_0 D ((8 * x6) + 9) 12 σ) fun v_64 σ_65 =>
cb (f_L_cell_0 D (((8 * x6) + 9) + 1) 10 σ_65) fun v_67 σ_68 =>
cb (f_X4_addTask_0 (1 + v_64) (1 + v_67) σ_68) fun v_70 σ_71 =>
cb (f_L_cell_0 D (((8 * x6) + 9) + 2) 14 σ_71) fun v_73 σ_74 =>
cb (f_X4_set_0 x6 2 v_73 σ_74) fun v_76 σ_77 =>
cb (f_L_cell_0 D (((8 * x6) + 9) + 3) 4 σ_77) fun v_79 σ_80 =>
cb (f_X4_set_0 x6 3 (1 + v_79) σ_80) fun v_82 σ_83 =>
cb (f_L_cell_0 D (((8 * x6) + 9) + 4) 3 σ_83) fun v_85 σ_86 =>
cb (f_X4_set_0 x6 4 v_85 σ_86) fun v_88 σ_89 =>
cb (f_L_cell_0 D (((8 * x6) + 9) + 5) 6 σ_89) fun v_91 σ_92 =>
cb (f_X4_set_0 x6 5 (1 + v_91) σ_92) fun v_94 σ_95 =>
cb (f_L_cell_0 D (((8 * x6) + 9) + 6) 3 σ_95) fun v_97 σ_98 =>
cb (f_X4_set_0 x6 6 v_97 σ_98) fun v_100 σ_101 =>
cb (f_L_cell_0 D (((8 * x6) + 9) + 7) 12 σ_101) fun v_103 σ_104 =>
cb (f_X4_set_0 x6 7 v_103 σ_104) fun v_106 σ_107 =>
f_L_law_319 D n (f_L_law_160 D n  f) FU x2 x6 0 σ_107
set_option maxHeartbeats 4000000 in
set_option maxRecDepth 100000 in
theorem w_L_law_160 {p : Program} {l : Launch} {e : Env} {s : State} {m : MethodId} {args : Array Value} {below : List Frame} {meth : Method} {c : Code} {Γ : GG} {res : Int32 × Sg} {cells slots : Nat} {Q : State → Prop} (M : MX RL cL_law 10 (some .boolean) p s m args meth c) (K : KK Γ s s.heap) (hz : cells ≤ room_1.cells ∧ slots ≤ room_1.slots) (hR : RT Γ p l e s m args below meth c cells slots Q res) {D : SD} (hD : gX Γ = D) (n : Int32) : ∀ (f : Nat) (x2 : Int32) (x6 : Int32) (σ : Sg) (H : Heap) (locs : List Loc) (ls : Array Slot)  (hB : Bd Γ σ s H locs) (hl : lv_has ls 10 [(0, .ref (gS Γ 6)), (1, .ref (Γ.1 0)), (2, .int x2), (3, .ref (Γ.1 150)), (4, .ref (Γ.1 151)), (5, .ref (Γ.1 152)), (6, .int x6)]) (hr : f_L_law_160 D n  f x2 x6 σ = some res), WLw cells slots Q Γ rm_L_law p l e s m args below meth c H locs res (F0 m 160 ls []) := by
  intro f
  induction f with
  | zero => intros; rename_i hr; exact absurd hr (by rw [f_L_law_160]; exact fun h => by cases h)
  | succ f ih_160 =>
    intro x2 x6 σ H locs ls  hB hl hr
    rw [f_L_law_160] at hr
    refine lv_iload M.1 M.2.1 dL_law_160 (lv_at hl 6 rfl) ?_
    refine lv_iload_n M.1 M.2.1 dL_law_162 rfl (lv_at hl 2 rfl) ?_
    refine lv_icmp_ge (tgt := 450) M.1 M.2.1 dL_law_163 (by decide) (fun c_51 => ?_) (fun c_51 => ?_)
    · rw [if_pos c_51] at hr
      refine lv_aload_n M.1 M.2.1 dL_law_450 rfl (lv_at hl 0 rfl) ?_
      refine lv_bipush (v := 60) M.1 M.2.1 dL_law_451 (by decide) ?_
      refine lv_iconst (v := 2) M.1 M.2.1 dL_law_453 (by decide) ?_
      obtain ⟨v_52, σ_53, h_54, hr⟩ := cbd hr
      refine x_callI (x_runS M K hB hl.1 [.ref (gS Γ 6), .int 60, .int 2] (rest := []) rfl (c_L_cell l Γ D 60 2 hD σ (v_52, σ_53) h_54) cy_L_cell wd_112 ⟨rfl, rfl, Nat.le_of_ble_eq_true rfl, Nat.le_of_ble_eq_true rfl⟩ (Nat.le_of_ble_eq_true rfl) hz dL_law_454) hB (fun H locs hB => ?_)
      replace hB : Bd Γ σ_53 s H locs := hB
      refine lv_if_ne (tgt := 474) M.1 M.2.1 dL_law_457 (by decide) (fun c_55 => ?_) (fun c_55 => ?_)
      · rw [if_neg c_55] at hr
        exact w_L_law_474 M K hz hR hD n  x2 _ _ _ _  hB (lv_sub hl [1, 2, 3, 4, 5] rfl) hr
      · rw [if_pos c_55] at hr
        refine lv_aload_n M.1 M.2.1 dL_law_460 rfl (lv_at hl 3 rfl) ?_
        refine lv_iconst (v := 3) M.1 M.2.1 dL_law_461 (by decide) ?_
        refine lv_aload_n M.1 M.2.1 dL_law_462 rfl (lv_at hl 1 rfl) ?_
        refine lv_bipush (v := 18) M.1 M.2.1 dL_law_463 (by decide) ?_
        obtain ⟨v_56, σ_57, h_58, hr⟩ := cbd hr
        refine x_callI (x_runV M K hB hl.1 [.int 18] (rest := [.int 3, .ref (Γ.1 150)]) rfl (c_X4_state l Γ 18  σ_53 (v_56, σ_57) h_58) cy_X4_state (x_recv K hB isK_0.2 (ent_4 isK_0.1) rfl) wd_106 ⟨rfl, rfl, Nat.le_of_ble_eq_true rfl, Nat.le_of_ble_eq_true rfl⟩ (Nat.le_of_ble_eq_true rfl) hz dL_law_465) hB (fun H locs hB => ?_)
        replace hB : Bd Γ σ_57 s H locs := hB
        obtain ⟨σ_59, e_60, hr⟩ := wbd hr
        refine x_iastL M K hB isA_150 (k := 3) (by decide) (by decide) dL_law_468 (fun H locs hB => ?_)
        rw [← e_60] at hB
        refine lv_aload_n M.1 M.2.1 dL_law_469 rfl (lv_at hl 1 rfl) ?_
        obtain ⟨v_61, σ_62, h_63, hr⟩ := cbd hr
        refine x_callI (x_runV M K hB hl.1 [] (rest := []) rfl (c_X4_powerCycle l Γ   σ_59 (v_61, σ_62) h_63) cy_X4_powerCycle (x_recv K hB isK_0.2 (ent_4 isK_0.1) rfl) wd_114 ⟨rfl, rfl, Nat.le_of_ble_eq_true rfl, Nat.le_of_ble_eq_true rfl⟩ (Nat.le_of_ble_eq_true rfl) hz dL_law_470) hB (fun H locs hB => ?_)
        replace hB : Bd Γ σ_62 s H locs := hB
        refine lv_pop M.1 M.2.1 dL_law_473 rfl ?_
        exact w_L_law_474 M K hz hR hD n  x2 _ _ _ _  hB (lv_sub hl [1, 2, 3, 4, 5] rfl) hr
    · rw [if_neg c_51] at hr
      refine lv_bipush (v := 8) M.1 M.2.1 dL_law_166 (by decide) ?_
      refine lv_iload M.1 M.2.1 dL_law_168 (lv_at hl 6 rfl) ?_
      refine lv_imul M.1 M.2.1 dL_law_170 ?_
      refine lv_bipush (v := 9) M.1 M.2.1 dL_law_171 (by decide) ?_
      refine lv_iadd M.1 M.2.1 dL_law_173 ?_
      refine lv_istore (lv' := [(7, .int ((8 * x6) + 9)), (0, .ref (gS Γ 6)), (1, .ref (Γ.1 0)), (2, .int x2), (3, .ref (Γ.1 150)), (4, .ref (Γ.1 151)), (5, .ref (Γ.1 152)), (6, .int x6)]) M.1 M.2.1 dL_law_174 hl (by decide) rfl (fun ls hl => ?_)
      refine lv_aload_n M.1 M.2.1 dL_law_176 rfl (lv_at hl 2 rfl) ?_
      refine lv_iconst (v := 1) M.1 M.2.1 dL_law_177 (by decide) ?_
      refine lv_aload_n M.1 M.2.1 dL_law_178 rfl (lv_at hl 1 rfl) ?_
      refine lv_iload M.1 M.2.1 dL_law_179 (lv_at hl 0 rfl) ?_
      refine lv_bipush (v := 12) M.1 M.2.1 dL_law_181 (by decide) ?_
      obtain ⟨v_64, σ_65, h_66, hr⟩ := cbd hr
      refine x_callI (x_runS M K hB hl.1 [.ref (gS Γ 6), .int ((8 * x6) + 9), .int 12] (rest := [.int 1, .ref (Γ.1 0)]) rfl (c_L_cell l Γ D ((8 * x6) + 9) 12 hD σ (v_64, σ_65) h_66) cy_L_cell wd_112 ⟨rfl, rfl, Nat.le_of_ble_eq_true rfl, Nat.le_of_ble_eq_true rfl⟩ (Nat.le_of_ble_eq_true rfl) hz dL_law_183) hB (fun H locs hB => ?_)
      replace hB : Bd Γ σ_65 s H locs := hB
      refine lv_iadd M.1 M.2.1 dL_law_186 ?_
      refine lv_iconst (v := 1) M.1 M.2.1 dL_law_187 (by decide) ?_
      refine lv_aload_n M.1 M.2.1 dL_law_188 rfl (lv_at hl 1 rfl) ?_
      refine lv_iload M.1 M.2.1 dL_law_189 (lv_at hl 0 rfl) ?_
      refine lv_iconst (v := 1) M.1 M.2.1 dL_law_191 (by decide) ?_
      refine lv_iadd M.1 M.2.1 dL_law_192 ?_
      refine lv_bipush (v := 10) M.1 M.2.1 dL_law_193 (by decide) ?_
      obtain ⟨v_67, σ_68, h_69, hr⟩ := cbd hr
      refine x_callI (x_runS M K hB hl.1 [.ref (gS Γ 6), .int (((8 * x6) + 9) + 1), .int 10] (rest := [.int 1, .int (1 + v_64), .ref (Γ.1 0)]) rfl (c_L_cell l Γ D (((8 * x6) + 9) + 1) 10 hD σ_65 (v_67, σ_68) h_69) cy_L_cell wd_112 ⟨rfl, rfl, Nat.le_of_ble_eq_true rfl, Nat.le_of_ble_eq_true rfl⟩ (Nat.le_of_ble_eq_true rfl) hz dL_law_195) hB (fun H locs hB => ?_)
      replace hB : Bd Γ σ_68 s H locs := hB
      refine lv_iadd M.1 M.2.1 dL_law_198 ?_
      obtain ⟨v_70, σ_71, h_72, hr⟩ := cbd hr
      refine x_callI (x_runV M K hB hl.1 [.int (1 + v_64), .int (1 + v_67)] (rest := []) rfl (c_X4_addTask l Γ (1 + v_64) (1 + v_67)  σ_68 (v_70, σ_71) h_72) cy_X4_addTask (x_recv K hB isK_0.2 (ent_4 isK_0.1) rfl) wd_115 ⟨rfl, rfl, Nat.le_of_ble_eq_true rfl, Nat.le_of_ble_eq_true rfl⟩ (Nat.le_of_ble_eq_true rfl) hz dL_law_199) hB (fun H locs hB => ?_)
      replace hB : Bd Γ σ_71 s H locs := hB
      refine lv_pop M.1 M.2.1 dL_law_202 rfl ?_
      refine lv_aload_n M.1 M.2.1 dL_law_203 rfl (lv_at hl 2 rfl) ?_
      refine lv_iload M.1 M.2.1 dL_law_204 (lv_at hl 7 rfl) ?_
      refine lv_iconst (v := 2) M.1 M.2.1 dL_law_206 (by decide) ?_
      refine lv_aload_n M.1 M.2.1 dL_law_207 rfl (lv_at hl 1 rfl) ?_
      refine lv_iload M.1 M.2.1 dL_law_208 (lv_at hl 0 rfl) ?_
      refine lv_iconst (v := 2) M.1 M.2.1 dL_law_210 (by decide) ?_
      refine lv_iadd M.1 M.2.1 dL_law_211 ?_
      refine lv_bipush (v := 14) M.1 M.2.1 dL_law_212 (by decide) ?_
      obtain ⟨v_73, σ_74, h_75, hr⟩ := cbd hr
      refine x_callI (x_runS M K hB hl.1 [.ref (gS Γ 6), .int (((8 * x6) + 9) + 2), .int 14] (rest := [.int 2, .int x6, .ref (Γ.1 0)]) rfl (c_L_cell l Γ D (((8 * x6) + 9) + 2) 14 hD σ_71 (v_73, σ_74) h_75) cy_L_cell wd_112 ⟨rfl, rfl, Nat.le_of_ble_eq_true rfl, Nat.le_of_ble_eq_true rfl⟩ (Nat.le_of_ble_eq_true rfl) hz dL_law_214) hB (fun H locs hB => ?_)
      replace hB : Bd Γ σ_74 s H locs := hB
      obtain ⟨v_76, σ_77, h_78, hr⟩ := cbd hr
      refine x_callI (x_runV M K hB hl.1 [.int x6, .int 2, .int v_73] (rest := []) rfl (c_X4_set l Γ x6 2 v_73  σ_74 (v_76, σ_77) h_78) cy_X4_set (x_recv K hB isK_0.2 (ent_4 isK_0.1) rfl) wd_116 ⟨rfl, rfl, Nat.le_of_ble_eq_true rfl, Nat.le_of_ble_eq_true rfl⟩ (Nat.le_of_ble_eq_true rfl) hz dL_law_217) hB (fun H locs hB => ?_)
      replace hB : Bd Γ σ_77 s H locs := hB
      refine lv_pop M.1 M.2.1 dL_law_220 rfl ?_
      refine lv_aload_n M.1 M.2.1 dL_law_221 rfl (lv_at hl 2 rfl) ?_
      refine lv_iload M.1 M.2.1 dL_law_222 (lv_at hl 7 rfl) ?_
      refine lv_iconst (v := 3) M.1 M.2.1 dL_law_224 (by decide) ?_
      refine lv_iconst (v := 1) M.1 M.2.1 dL_law_225 (by decide) ?_
      refine lv_aload_n M.1 M.2.1 dL_law_226 rfl (lv_at hl 1 rfl) ?_
      refine lv_iload M.1 M.2.1 dL_law_227 (lv_at hl 0 rfl) ?_
      refine lv_iconst (v := 3) M.1 M.2.1 dL_law_229 (by decide) ?_
      refine lv_iadd M.1 M.2.1 dL_law_230 ?_
      refine lv_iconst (v := 4) M.1 M.2.1 dL_law_231 (by decide) ?_
      obtain ⟨v_79, σ_80, h_81, hr⟩ := cbd hr
      refine x_callI (x_runS M K hB hl.1 [.ref (gS Γ 6), .int (((8 * x6) + 9) + 3), .int 4] (rest := [.int 1, .int 3, .int x6, .ref (Γ.1 0)]) rfl (c_L_cell l Γ D (((8 * x6) + 9) + 3) 4 hD σ_77 (v_79, σ_80) h_81) cy_L_cell wd_112 ⟨rfl, rfl, Nat.le_of_ble_eq_true rfl, Nat.le_of_ble_eq_true rfl⟩ (Nat.le_of_ble_eq_true rfl) hz dL_law_232) hB (fun H locs hB => ?_)
      replace hB : Bd Γ σ_80 s H locs := hB
      refine lv_iadd M.1 M.2.1 dL_law_235 ?_
      obtain ⟨v_82, σ_83, h_84, hr⟩ := cbd hr
      refine x_callI (x_runV M K hB hl.1 [.int x6, .int 3, .int (1 + v_79)] (rest := []) rfl (c_X4_set l Γ x6 3 (1 + v_79)  σ_80 (v_82, σ_83) h_84) cy_X4_set (x_recv K hB isK_0.2 (ent_4 isK_0.1) rfl) wd_116 ⟨rfl, rfl, Nat.le_of_ble_eq_true rfl, Nat.le_of_ble_eq_true rfl⟩ (Nat.le_of_ble_eq_true rfl) hz dL_law_236) hB (fun H locs hB => ?_)
      replace hB : Bd Γ σ_83 s H locs := hB
      refine lv_pop M.1 M.2.1 dL_law_239 rfl ?_
      refine lv_aload_n M.1 M.2.1 dL_law_240 rfl (lv_at hl 2 rfl) ?_
      refine lv_iload M.1 M.2.1 dL_law_241 (lv_at hl 7 rfl) ?_
      refine lv_iconst (v := 4) M.1 M.2.1 dL_law_243 (by decide) ?_
      refine lv_aload_n M.1 M.2.1 dL_law_244 rfl (lv_at hl 1 rfl) ?_
      refine lv_iload M.1 M.2.1 dL_law_245 (lv_at hl 0 rfl) ?_
      refine lv_iconst (v := 4) M.1 M.2.1 dL_law_247 (by decide) ?_
      refine lv_iadd M.1 M.2.1 dL_law_248 ?_
      refine lv_iconst (v := 3) M.1 M.2.1 dL_law_249 (by decide) ?_
      obtain ⟨v_85, σ_86, h_87, hr⟩ := cbd hr
      refine x_callI (x_runS M K hB hl.1 [.ref (gS Γ 6), .int (((8 * x6) + 9) + 4), .int 3] (rest := [.int 4, .int x6, .ref (Γ.1 0)]) rfl (c_L_cell l Γ D (((8 * x6) + 9) + 4) 3 hD σ_83 (v_85, σ_86) h_87) cy_L_cell wd_112 ⟨rfl, rfl, Nat.le_of_ble_eq_true rfl, Nat.le_of_ble_eq_true rfl⟩ (Nat.le_of_ble_eq_true rfl) hz dL_law_250) hB (fun H locs hB => ?_)
      replace hB : Bd Γ σ_86 s H locs := hB
      obtain ⟨v_88, σ_89, h_90, hr⟩ := cbd hr
      refine x_callI (x_runV M K hB hl.1 [.int x6, .int 4, .int v_85] (rest := []) rfl (c_X4_set l Γ x6 4 v_85  σ_86 (v_88, σ_89) h_90) cy_X4_set (x_recv K hB isK_0.2 (ent_4 isK_0.1) rfl) wd_116 ⟨rfl, rfl, Nat.le_of_ble_eq_true rfl, Nat.le_of_ble_eq_true rfl⟩ (Nat.le_of_ble_eq_true rfl) hz dL_law_253) hB (fun H locs hB => ?_)
      replace hB : Bd Γ σ_89 s H locs := hB
      refine lv_pop M.1 M.2.1 dL_law_256 rfl ?_
      refine lv_aload_n M.1 M.2.1 dL_law_257 rfl (lv_at hl 2 rfl) ?_
      refine lv_iload M.1 M.2.1 dL_law_258 (lv_at hl 7 rfl) ?_
      refine lv_iconst (v := 5) M.1 M.2.1 dL_law_260 (by decide) ?_
      refine lv_iconst (v := 1) M.1 M.2.1 dL_law_261 (by decide) ?_
      refine lv_aload_n M.1 M.2.1 dL_law_262 rfl (lv_at hl 1 rfl) ?_
      refine lv_iload M.1 M.2.1 dL_law_263 (lv_at hl 0 rfl) ?_
      refine lv_iconst (v := 5) M.1 M.2.1 dL_law_265 (by decide) ?_
      refine lv_iadd M.1 M.2.1 dL_law_266 ?_
      refine lv_bipush (v := 6) M.1 M.2.1 dL_law_267 (by decide) ?_
      obtain ⟨v_91, σ_92, h_93, hr⟩ := cbd hr
      refine x_callI (x_runS M K hB hl.1 [.ref (gS Γ 6), .int (((8 * x6) + 9) + 5), .int 6] (rest := [.int 1, .int 5, .int x6, .ref (Γ.1 0)]) rfl (c_L_cell l Γ D (((8 * x6) + 9) + 5) 6 hD σ_89 (v_91, σ_92) h_93) cy_L_cell wd_112 ⟨rfl, rfl, Nat.le_of_ble_eq_true rfl, Nat.le_of_ble_eq_true rfl⟩ (Nat.le_of_ble_eq_true rfl) hz dL_law_269) hB (fun H locs hB => ?_)
      replace hB : Bd Γ σ_92 s H locs := hB
      refine lv_iadd M.1 M.2.1 dL_law_272 ?_
      obtain ⟨v_94, σ_95, h_96, hr⟩ := cbd hr
      refine x_callI (x_runV M K hB hl.1 [.int x6, .int 5, .int (1 + v_91)] (rest := []) rfl (c_X4_set l Γ x6 5 (1 + v_91)  σ_92 (v_94, σ_95) h_96) cy_X4_set (x_recv K hB isK_0.2 (ent_4 isK_0.1) rfl) wd_116 ⟨rfl, rfl, Nat.le_of_ble_eq_true rfl, Nat.le_of_ble_eq_true rfl⟩ (Nat.le_of_ble_eq_true rfl) hz dL_law_273) hB (fun H locs hB => ?_)
      replace hB : Bd Γ σ_95 s H locs := hB
      refine lv_pop M.1 M.2.1 dL_law_276 rfl ?_
      refine lv_aload_n M.1 M.2.1 dL_law_277 rfl (lv_at hl 2 rfl) ?_
      refine lv_iload M.1 M.2.1 dL_law_278 (lv_at hl 7 rfl) ?_
      refine lv_bipush (v := 6) M.1 M.2.1 dL_law_280 (by decide) ?_
      refine lv_aload_n M.1 M.2.1 dL_law_282 rfl (lv_at hl 1 rfl) ?_
      refine lv_iload M.1 M.2.1 dL_law_283 (lv_at hl 0 rfl) ?_
      refine lv_bipush (v := 6) M.1 M.2.1 dL_law_285 (by decide) ?_
      refine lv_iadd M.1 M.2.1 dL_law_287 ?_
      refine lv_iconst (v := 3) M.1 M.2.1 dL_law_288 (by decide) ?_
      obtain ⟨v_97, σ_98, h_99, hr⟩ := cbd hr
      refine x_callI (x_runS M K hB hl.1 [.ref (gS Γ 6), .int (((8 * x6) + 9) + 6), .int 3] (rest := [.int 6, .int x6, .ref (Γ.1 0)]) rfl (c_L_cell l Γ D (((8 * x6) + 9) + 6) 3 hD σ_95 (v_97, σ_98) h_99) cy_L_cell wd_112 ⟨rfl, rfl, Nat.le_of_ble_eq_true rfl, Nat.le_of_ble_eq_true rfl⟩ (Nat.le_of_ble_eq_true rfl) hz dL_law_289) hB (fun H locs hB => ?_)
      replace hB : Bd Γ σ_98 s H locs := hB
      obtain ⟨v_100, σ_101, h_102, hr⟩ := cbd hr
      refine x_callI (x_runV M K hB hl.1 [.int x6, .int 6, .int v_97] (rest := []) rfl (c_X4_set l Γ x6 6 v_97  σ_98 (v_100, σ_101) h_102) cy_X4_set (x_recv K hB isK_0.2 (ent_4 isK_0.1) rfl) wd_116 ⟨rfl, rfl, Nat.le_of_ble_eq_true rfl, Nat.le_of_ble_eq_true rfl⟩ (Nat.le_of_ble_eq_true rfl) hz dL_law_292) hB (fun H locs hB => ?_)
      replace hB : Bd Γ σ_101 s H locs := hB
      refine lv_pop M.1 M.2.1 dL_law_295 rfl ?_
      refine lv_aload_n M.1 M.2.1 dL_law_296 rfl (lv_at hl 2 rfl) ?_
      refine lv_iload M.1 M.2.1 dL_law_297 (lv_at hl 7 rfl) ?_
      refine lv_bipush (v := 7) M.1 M.2.1 dL_law_299 (by decide) ?_
      refine lv_aload_n M.1 M.2.1 dL_law_301 rfl (lv_at hl 1 rfl) ?_
      refine lv_iload M.1 M.2.1 dL_law_302 (lv_at hl 0 rfl) ?_
      refine lv_bipush (v := 7) M.1 M.2.1 dL_law_304 (by decide) ?_
      refine lv_iadd M.1 M.2.1 dL_law_306 ?_
      refine lv_bipush (v := 12) M.1 M.2.1 dL_law_307 (by decide) ?_
      obtain ⟨v_103, σ_104, h_105, hr⟩ := cbd hr
      refine x_callI (x_runS M K hB hl.1 [.ref (gS Γ 6), .int (((8 * x6) + 9) + 7), .int 12] (rest := [.int 7, .int x6, .ref (Γ.1 0)]) rfl (c_L_cell l Γ D (((8 * x6) + 9) + 7) 12 hD σ_101 (v_103, σ_104) h_105) cy_L_cell wd_112 ⟨rfl, rfl, Nat.le_of_ble_eq_true rfl, Nat.le_of_ble_eq_true rfl⟩ (Nat.le_of_ble_eq_true rfl) hz dL_law_309) hB (fun H locs hB => ?_)
      replace hB : Bd Γ σ_104 s H locs := hB
      obtain ⟨v_106, σ_107, h_108, hr⟩ := cbd hr
      refine x_callI (x_runV M K hB hl.1 [.int x6, .int 7, .int v_103] (rest := []) rfl (c_X4_set l Γ x6 7 v_103  σ_104 (v_106, σ_107) h_108) cy_X4_set (x_recv K hB isK_0.2 (ent_4 isK_0.1) rfl) wd_116 ⟨rfl, rfl, Nat.le_of_ble_eq_true rfl, Nat.le_of_ble_eq_true rfl⟩ (Nat.le_of_ble_eq_true rfl) hz dL_law_312) hB (fun H locs hB => ?_)
      replace hB : Bd Γ σ_107 s H locs := hB
      refine lv_pop M.1 M.2.1 dL_law_315 rfl ?_
      refine lv_iconst (v := 0) M.1 M.2.1 dL_law_316 (by decide) ?_
      refine lv_istore (lv' := [(8, .int 0), (7, .int ((8 * x6) + 9)), (0, .ref (gS Γ 6)), (1, .ref (Γ.1 0)), (2, .int x2), (3, .ref (Γ.1 150)), (4, .ref (Γ.1 151)), (5, .ref (Γ.1 152)), (6, .int x6)]) M.1 M.2.1 dL_law_317 hl (by decide) rfl (fun ls hl => ?_)
      exact w_L_law_319 M K hz hR hD n _ ih_160 FU x2 x6 0 _ _ _ _  hB (lv_sub hl [2, 3, 4, 5, 6, 7, 8, 0] rfl) hr
def f_L_law_34 (D : SD) (n : Int32)   (σ : Sg) : Option (Int32 × Sg) :=
wb (st σ 150 3 30) fun σ_1 =>
cb (f_L_cell_0 D 1 12 σ_1) fun v_3 σ_4 =>
cb (f_X4_rule_0 0 v_3 σ_4) fun v_6 σ_7 =>
cb (f_L_cell_0 D 2 40 σ_7) fun v_9 σ_10 =>
cb (f_X4_rule_0 1 (10 + v_9) σ_10) fun v_12 σ_13 =>
cb (f_L_cell_0 D 3 8 σ_13) fun v_15 σ_16 =>
cb (f_X4_rule_0 2 (1 + v_15) σ_16) fun v_18 σ_19 =>
cb (f_L_cell_0 D 4 30 σ_19) fun v_21 σ_22 =>
cb (f_X4_rule_0 3 v_21 σ_22) fun v_24 σ_25 =>
cb (f_L_cell_0 D 5 4 σ_25) fun v_27 σ_28 =>
cb (f_X4_rule_0 4 v_27 σ_28) fun v_30 σ_31 =>
cb (f_L_cell_0 D 6 6 σ_31) fun v_33 σ_34 =>
cb (f_X4_rule_0 5 (1 + v_33) σ_34) fun v_36 σ_37 =>
cb (f_L_cell_0 D 7 60 σ_37) fun v_39 σ_40 =>
cb (f_X4_rule_0 6 (5 + v_39) σ_40) fun v_42 σ_43 =>
cb (f_L_cell_0 D 8 3 σ_43) fun v_45 σ_46 =>
cb (f_X4_rule_0 7 (1 + v_45) σ_46) fun v_48 σ_49 =>
f_L_law_160 D n  FU n 0 σ_49
set_option maxHeartbeats 4000000 in
set_option maxRecDepth 100000 in
theorem w_L_law_34 {p : Program} {l : Launch} {e : Env} {s : State} {m : MethodId} {args : Array Value} {below : List Frame} {meth : Method} {c : Code} {Γ : GG} {res : Int32 × Sg} {cells slots : Nat} {Q : State → Prop} (M : MX RL cL_law 10 (some .boolean) p s m args meth c) (K : KK Γ s s.heap) (hz : cells ≤ room_1.cells ∧ slots ≤ room_1.slots) (hR : RT Γ p l e s m args below meth c cells slots Q res) {D : SD} (hD : gX Γ = D) (n : Int32)  (σ : Sg) (H : Heap) (locs : List Loc) (ls : Array Slot)  (hB : Bd Γ σ s H locs) (hl : lv_has ls 10 [(0, .ref (gS Γ 6)), (1, .ref (Γ.1 0)), (2, .int n), (3, .ref (Γ.1 150)), (4, .ref (Γ.1 151)), (5, .ref (Γ.1 152))]) (hr : f_L_law_34 D n   σ = some res) : WLw cells slots Q Γ rm_L_law p l e s m args below meth c H locs res (F0 m 34 ls []) := by
  unfold f_L_law_34 at hr
  refine lv_aload_n M.1 M.2.1 dL_law_34 rfl (lv_at hl 3 rfl) ?_
  refine lv_iconst (v := 3) M.1 M.2.1 dL_law_35 (by decide) ?_
  refine lv_bipush (v := 30) M.1 M.2.1 dL_law_36 (by decide) ?_
  obtain ⟨σ_1, e_2, hr⟩ := wbd hr
  refine x_iastL M K hB isA_150 (k := 3) (by decide) (by decide) dL_law_38 (fun H locs hB => ?_)
  rw [← e_2] at hB
  refine lv_aload_n M.1 M.2.1 dL_law_39 rfl (lv_at hl 1 rfl) ?_
  refine lv_iconst (v := 0) M.1 M.2.1 dL_law_40 (by decide) ?_
  refine lv_aload_n M.1 M.2.1 dL_law_41 rfl (lv_at hl 0 rfl) ?_
  refine lv_iconst (v := 1) M.1 M.2.1 dL_law_42 (by decide) ?_
  refine lv_bipush (v := 12) M.1 M.2.1 dL_law_43 (by decide) ?_
  obtain ⟨v_3, σ_4, h_5, hr⟩ := cbd hr
  refine x_callI (x_runS M K hB hl.1 [.ref (gS Γ 6), .int 1, .int 12] (rest := [.int 0, .ref (Γ.1 0)]) rfl (c_L_cell l Γ D 1 12 hD σ_1 (v_3, σ_4) h_5) cy_L_cell wd_112 ⟨rfl, rfl, Nat.le_of_ble_eq_true rfl, Nat.le_of_ble_eq_true rfl⟩ (Nat.le_of_ble_eq_true rfl) hz dL_law_45) hB (fun H locs hB => ?_)
  replace hB : Bd Γ σ_4 s H locs := hB
  obtain ⟨v_6, σ_7, h_8, hr⟩ := cbd hr
  refine x_callI (x_runV M K hB hl.1 [.int 0, .int v_3] (rest := []) rfl (c_X4_rule l Γ 0 v_3  σ_4 (v_6, σ_7) h_8) cy_X4_rule (x_recv K hB isK_0.2 (ent_4 isK_0.1) rfl) wd_113 ⟨rfl, rfl, Nat.le_of_ble_eq_true rfl, Nat.le_of_ble_eq_true rfl⟩ (Nat.le_of_ble_eq_true rfl) hz dL_law_48) hB (fun H locs hB => ?_)
  replace hB : Bd Γ σ_7 s H locs := hB
  refine lv_pop M.1 M.2.1 dL_law_51 rfl ?_
  refine lv_aload_n M.1 M.2.1 dL_law_52 rfl (lv_at hl 1 rfl) ?_
  refine lv_iconst (v := 1) M.1 M.2.1 dL_law_53 (by decide) ?_
  refine lv_bipush (v := 10) M.1 M.2.1 dL_law_54 (by decide) ?_
  refine lv_aload_n M.1 M.2.1 dL_law_56 rfl (lv_at hl 0 rfl) ?_
  refine lv_iconst (v := 2) M.1 M.2.1 dL_law_57 (by decide) ?_
  refine lv_bipush (v := 40) M.1 M.2.1 dL_law_58 (by decide) ?_
  obtain ⟨v_9, σ_10, h_11, hr⟩ := cbd hr
  refine x_callI (x_runS M K hB hl.1 [.ref (gS Γ 6), .int 2, .int 40] (rest := [.int 10, .int 1, .ref (Γ.1 0)]) rfl (c_L_cell l Γ D 2 40 hD σ_7 (v_9, σ_10) h_11) cy_L_cell wd_112 ⟨rfl, rfl, Nat.le_of_ble_eq_true rfl, Nat.le_of_ble_eq_true rfl⟩ (Nat.le_of_ble_eq_true rfl) hz dL_law_60) hB (fun H locs hB => ?_)
  replace hB : Bd Γ σ_10 s H locs := hB
  refine lv_iadd M.1 M.2.1 dL_law_63 ?_
  obtain ⟨v_12, σ_13, h_14, hr⟩ := cbd hr
  refine x_callI (x_runV M K hB hl.1 [.int 1, .int (10 + v_9)] (rest := []) rfl (c_X4_rule l Γ 1 (10 + v_9)  σ_10 (v_12, σ_13) h_14) cy_X4_rule (x_recv K hB isK_0.2 (ent_4 isK_0.1) rfl) wd_113 ⟨rfl, rfl, Nat.le_of_ble_eq_true rfl, Nat.le_of_ble_eq_true rfl⟩ (Nat.le_of_ble_eq_true rfl) hz dL_law_64) hB (fun H locs hB => ?_)
  replace hB : Bd Γ σ_13 s H locs := hB
  refine lv_pop M.1 M.2.1 dL_law_67 rfl ?_
  refine lv_aload_n M.1 M.2.1 dL_law_68 rfl (lv_at hl 1 rfl) ?_
  refine lv_iconst (v := 2) M.1 M.2.1 dL_law_69 (by decide) ?_
  refine lv_iconst (v := 1) M.1 M.2.1 dL_law_70 (by decide) ?_
  refine lv_aload_n M.1 M.2.1 dL_law_71 rfl (lv_at hl 0 rfl) ?_
  refine lv_iconst (v := 3) M.1 M.2.1 dL_law_72 (by decide) ?_
  refine lv_bipush (v := 8) M.1 M.2.1 dL_law_73 (by decide) ?_
  obtain ⟨v_15, σ_16, h_17, hr⟩ := cbd hr
  refine x_callI (x_runS M K hB hl.1 [.ref (gS Γ 6), .int 3, .int 8] (rest := [.int 1, .int 2, .ref (Γ.1 0)]) rfl (c_L_cell l Γ D 3 8 hD σ_13 (v_15, σ_16) h_17) cy_L_cell wd_112 ⟨rfl, rfl, Nat.le_of_ble_eq_true rfl, Nat.le_of_ble_eq_true rfl⟩ (Nat.le_of_ble_eq_true rfl) hz dL_law_75) hB (fun H locs hB => ?_)
  replace hB : Bd Γ σ_16 s H locs := hB
  refine lv_iadd M.1 M.2.1 dL_law_78 ?_
  obtain ⟨v_18, σ_19, h_20, hr⟩ := cbd hr
  refine x_callI (x_runV M K hB hl.1 [.int 2, .int (1 + v_15)] (rest := []) rfl (c_X4_rule l Γ 2 (1 + v_15)  σ_16 (v_18, σ_19) h_20) cy_X4_rule (x_recv K hB isK_0.2 (ent_4 isK_0.1) rfl) wd_113 ⟨rfl, rfl, Nat.le_of_ble_eq_true rfl, Nat.le_of_ble_eq_true rfl⟩ (Nat.le_of_ble_eq_true rfl) hz dL_law_79) hB (fun H locs hB => ?_)
  replace hB : Bd Γ σ_19 s H locs := hB
  refine lv_pop M.1 M.2.1 dL_law_82 rfl ?_
  refine lv_aload_n M.1 M.2.1 dL_law_83 rfl (lv_at hl 1 rfl) ?_
  refine lv_iconst (v := 3) M.1 M.2.1 dL_law_84 (by decide) ?_
  refine lv_aload_n M.1 M.2.1 dL_law_85 rfl (lv_at hl 0 rfl) ?_
  refine lv_iconst (v := 4) M.1 M.2.1 dL_law_86 (by decide) ?_
  refine lv_bipush (v := 30) M.1 M.2.1 dL_law_87 (by decide) ?_
  obtain ⟨v_21, σ_22, h_23, hr⟩ := cbd hr
  refine x_callI (x_runS M K hB hl.1 [.ref (gS Γ 6), .int 4, .int 30] (rest := [.int 3, .ref (Γ.1 0)]) rfl (c_L_cell l Γ D 4 30 hD σ_19 (v_21, σ_22) h_23) cy_L_cell wd_112 ⟨rfl, rfl, Nat.le_of_ble_eq_true rfl, Nat.le_of_ble_eq_true rfl⟩ (Nat.le_of_ble_eq_true rfl) hz dL_law_89) hB (fun H locs hB => ?_)
  replace hB : Bd Γ σ_22 s H locs := hB
  obtain ⟨v_24, σ_25, h_26, hr⟩ := cbd hr
  refine x_callI (x_runV M K hB hl.1 [.int 3, .int v_21] (rest := []) rfl (c_X4_rule l Γ 3 v_21  σ_22 (v_24, σ_25) h_26) cy_X4_rule (x_recv K hB isK_0.2 (ent_4 isK_0.1) rfl) wd_113 ⟨rfl, rfl, Nat.le_of_ble_eq_true rfl, Nat.le_of_ble_eq_true rfl⟩ (Nat.le_of_ble_eq_true rfl) hz dL_law_92) hB (fun H locs hB => ?_)
  replace hB : Bd Γ σ_25 s H locs := hB
  refine lv_pop M.1 M.2.1 dL_law_95 rfl ?_
  refine lv_aload_n M.1 M.2.1 dL_law_96 rfl (lv_at hl 1 rfl) ?_
  refine lv_iconst (v := 4) M.1 M.2.1 dL_law_97 (by decide) ?_
  refine lv_aload_n M.1 M.2.1 dL_law_98 rfl (lv_at hl 0 rfl) ?_
  refine lv_iconst (v := 5) M.1 M.2.1 dL_law_99 (by decide) ?_
  refine lv_iconst (v := 4) M.1 M.2.1 dL_law_100 (by decide) ?_
  obtain ⟨v_27, σ_28, h_29, hr⟩ := cbd hr
  refine x_callI (x_runS M K hB hl.1 [.ref (gS Γ 6), .int 5, .int 4] (rest := [.int 4, .ref (Γ.1 0)]) rfl (c_L_cell l Γ D 5 4 hD σ_25 (v_27, σ_28) h_29) cy_L_cell wd_112 ⟨rfl, rfl, Nat.le_of_ble_eq_true rfl, Nat.le_of_ble_eq_true rfl⟩ (Nat.le_of_ble_eq_true rfl) hz dL_law_101) hB (fun H locs hB => ?_)
  replace hB : Bd Γ σ_28 s H locs := hB
  obtain ⟨v_30, σ_31, h_32, hr⟩ := cbd hr
  refine x_callI (x_runV M K hB hl.1 [.int 4, .int v_27] (rest := []) rfl (c_X4_rule l Γ 4 v_27  σ_28 (v_30, σ_31) h_32) cy_X4_rule (x_recv K hB isK_0.2 (ent_4 isK_0.1) rfl) wd_113 ⟨rfl, rfl, Nat.le_of_ble_eq_true rfl, Nat.le_of_ble_eq_true rfl⟩ (Nat.le_of_ble_eq_true rfl) hz dL_law_104) hB (fun H locs hB => ?_)
  replace hB : Bd Γ σ_31 s H locs := hB
  refine lv_pop M.1 M.2.1 dL_law_107 rfl ?_
  refine lv_aload_n M.1 M.2.1 dL_law_108 rfl (lv_at hl 1 rfl) ?_
  refine lv_iconst (v := 5) M.1 M.2.1 dL_law_109 (by decide) ?_
  refine lv_iconst (v := 1) M.1 M.2.1 dL_law_110 (by decide) ?_
  refine lv_aload_n M.1 M.2.1 dL_law_111 rfl (lv_at hl 0 rfl) ?_
  refine lv_bipush (v := 6) M.1 M.2.1 dL_law_112 (by decide) ?_
  refine lv_bipush (v := 6) M.1 M.2.1 dL_law_114 (by decide) ?_
  obtain ⟨v_33, σ_34, h_35, hr⟩ := cbd hr
  refine x_callI (x_runS M K hB hl.1 [.ref (gS Γ 6), .int 6, .int 6] (rest := [.int 1, .int 5, .ref (Γ.1 0)]) rfl (c_L_cell l Γ D 6 6 hD σ_31 (v_33, σ_34) h_35) cy_L_cell wd_112 ⟨rfl, rfl, Nat.le_of_ble_eq_true rfl, Nat.le_of_ble_eq_true rfl⟩ (Nat.le_of_ble_eq_true rfl) hz dL_law_116) hB (fun H locs hB => ?_)
  replace hB : Bd Γ σ_34 s H locs := hB
  refine lv_iadd M.1 M.2.1 dL_law_119 ?_
  obtain ⟨v_36, σ_37, h_38, hr⟩ := cbd hr
  refine x_callI (x_runV M K hB hl.1 [.int 5, .int (1 + v_33)] (rest := []) rfl (c_X4_rule l Γ 5 (1 + v_33)  σ_34 (v_36, σ_37) h_38) cy_X4_rule (x_recv K hB isK_0.2 (ent_4 isK_0.1) rfl) wd_113 ⟨rfl, rfl, Nat.le_of_ble_eq_true rfl, Nat.le_of_ble_eq_true rfl⟩ (Nat.le_of_ble_eq_true rfl) hz dL_law_120) hB (fun H locs hB => ?_)
  replace hB : Bd Γ σ_37 s H locs := hB
  refine lv_pop M.1 M.2.1 dL_law_123 rfl ?_
  refine lv_aload_n M.1 M.2.1 dL_law_124 rfl (lv_at hl 1 rfl) ?_
  refine lv_bipush (v := 6) M.1 M.2.1 dL_law_125 (by decide) ?_
  refine lv_iconst (v := 5) M.1 M.2.1 dL_law_127 (by decide) ?_
  refine lv_aload_n M.1 M.2.1 dL_law_128 rfl (lv_at hl 0 rfl) ?_
  refine lv_bipush (v := 7) M.1 M.2.1 dL_law_129 (by decide) ?_
  refine lv_bipush (v := 60) M.1 M.2.1 dL_law_131 (by decide) ?_
  obtain ⟨v_39, σ_40, h_41, hr⟩ := cbd hr
  refine x_callI (x_runS M K hB hl.1 [.ref (gS Γ 6), .int 7, .int 60] (rest := [.int 5, .int 6, .ref (Γ.1 0)]) rfl (c_L_cell l Γ D 7 60 hD σ_37 (v_39, σ_40) h_41) cy_L_cell wd_112 ⟨rfl, rfl, Nat.le_of_ble_eq_true rfl, Nat.le_of_ble_eq_true rfl⟩ (Nat.le_of_ble_eq_true rfl) hz dL_law_133) hB (fun H locs hB => ?_)
  replace hB : Bd Γ σ_40 s H locs := hB
  refine lv_iadd M.1 M.2.1 dL_law_136 ?_
  obtain ⟨v_42, σ_43, h_44, hr⟩ := cbd hr
  refine x_callI (x_runV M K hB hl.1 [.int 6, .int (5 + v_39)] (rest := []) rfl (c_X4_rule l Γ 6 (5 + v_39)  σ_40 (v_42, σ_43) h_44) cy_X4_rule (x_recv K hB isK_0.2 (ent_4 isK_0.1) rfl) wd_113 ⟨rfl, rfl, Nat.le_of_ble_eq_true rfl, Nat.le_of_ble_eq_true rfl⟩ (Nat.le_of_ble_eq_true rfl) hz dL_law_137) hB (fun H locs hB => ?_)
  replace hB : Bd Γ σ_43 s H locs := hB
  refine lv_pop M.1 M.2.1 dL_law_140 rfl ?_
  refine lv_aload_n M.1 M.2.1 dL_law_141 rfl (lv_at hl 1 rfl) ?_
  refine lv_bipush (v := 7) M.1 M.2.1 dL_law_142 (by decide) ?_
  refine lv_iconst (v := 1) M.1 M.2.1 dL_law_144 (by decide) ?_
  refine lv_aload_n M.1 M.2.1 dL_law_145 rfl (lv_at hl 0 rfl) ?_
  refine lv_bipush (v := 8) M.1 M.2.1 dL_law_146 (by decide) ?_
  refine lv_iconst (v := 3) M.1 M.2.1 dL_law_148 (by decide) ?_
  obtain ⟨v_45, σ_46, h_47, hr⟩ := cbd hr
  refine x_callI (x_runS M K hB hl.1 [.ref (gS Γ 6), .int 8, .int 3] (rest := [.int 1, .int 7, .ref (Γ.1 0)]) rfl (c_L_cell l Γ D 8 3 hD σ_43 (v_45, σ_46) h_47) cy_L_cell wd_112 ⟨rfl, rfl, Nat.le_of_ble_eq_true rfl, Nat.le_of_ble_eq_true rfl⟩ (Nat.le_of_ble_eq_true rfl) hz dL_law_149) hB (fun H locs hB => ?_)
  replace hB : Bd Γ σ_46 s H locs := hB
  refine lv_iadd M.1 M.2.1 dL_law_152 ?_
  obtain ⟨v_48, σ_49, h_50, hr⟩ := cbd hr
  refine x_callI (x_runV M K hB hl.1 [.int 7, .int (1 + v_45)] (rest := []) rfl (c_X4_rule l Γ 7 (1 + v_45)  σ_46 (v_48, σ_49) h_50) cy_X4_rule (x_recv K hB isK_0.2 (ent_4 isK_0.1) rfl) wd_113 ⟨rfl, rfl, Nat.le_of_ble_eq_true rfl, Nat.le_of_ble_eq_true rfl⟩ (Nat.le_of_ble_eq_true rfl) hz dL_law_153) hB (fun H locs hB => ?_)
  replace hB : Bd Γ σ_49 s H locs := hB
  refine lv_pop M.1 M.2.1 dL_law_156 rfl ?_
  refine lv_iconst (v := 0) M.1 M.2.1 dL_law_157 (by decide) ?_
  refine lv_istore (lv' := [(6, .int 0), (0, .ref (gS Γ 6)), (1, .ref (Γ.1 0)), (2, .int n), (3, .ref (Γ.1 150)), (4, .ref (Γ.1 151)), (5, .ref (Γ.1 152))]) M.1 M.2.1 dL_law_158 hl (by decide) rfl (fun ls hl => ?_)
  exact w_L_law_160 M K hz hR hD n  FU n 0 _ _ _ _  hB (lv_sub hl [1, 2, 3, 4, 5, 6, 0] rfl) hr
end
