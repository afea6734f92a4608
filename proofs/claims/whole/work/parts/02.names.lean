def RX0 : String := "LaunchRange$Boats"
def TX0 : u_T := fun k => match k with
  | _ => ("LaunchRange$Boats", "riskOf", "[I", true)
def tyX0 : Nat → FieldType := fun k => match k with
  | _ => .array .int
abbrev wsX00 : List Cond := u_ws RX0 TX0 1
theorem nmX0 : ∀ a, a < 1 → ∀ b, b < 1 → a ≠ b → (TX0 a).2.1 ≠ (TX0 b).2.1 := by decide +kernel
theorem tyX0_ok : ∀ k, k < 1 → parseFieldDescriptor (TX0 k).2.2.1 = some (tyX0 k) := by decide +kernel
abbrev cX0_init : ByteArray := prog_2_method_1_code
def yX0_init : MethodName := ⟨RX0, "<init>", "()V"⟩
abbrev cX0_tell : ByteArray := prog_2_method_2_code
def yX0_tell : MethodName := ⟨RX0, "tell", "(III)V"⟩
abbrev cX0_sumOfRisks : ByteArray := prog_2_method_3_code
def yX0_sumOfRisks : MethodName := ⟨RX0, "sumOfRisks", "()I"⟩
def RX1 : String := "LaunchRange$Countdown"
def TX1 : u_T := fun k => match k with
  | 0 => ("LaunchRange$Countdown", "at", "I", false)
  | 1 => ("LaunchRange$Countdown", "open", "I", false)
  | 2 => ("LaunchRange$Countdown", "shut", "I", false)
  | 3 => ("LaunchRange$Countdown", "secondsHeld", "I", false)
  | 4 => ("LaunchRange$Countdown", "heldHere", "I", false)
  | 5 => ("LaunchRange$Countdown", "cause", "C", false)
  | 6 => ("LaunchRange$Countdown", "causeRule", "I", false)
  | 7 => ("LaunchRange$Countdown", "firstCause", "C", false)
  | _ => ("LaunchRange$Countdown", "firstRule", "I", false)
def tyX1 : Nat → FieldType := fun k => match k with
  | 0 => .int
  | 1 => .int
  | 2 => .int
  | 3 => .int
  | 4 => .int
  | 5 => .char
  | 6 => .int
  | 7 => .char
  | _ => .int
abbrev wsX10 : List Cond := u_ws RX1 TX1 9
theorem nmX1 : ∀ a, a < 9 → ∀ b, b < 9 → a ≠ b → (TX1 a).2.1 ≠ (TX1 b).2.1 := by decide +kernel
theorem tyX1_ok : ∀ k, k < 9 → parseFieldDescriptor (TX1 k).2.2.1 = some (tyX1 k) := by decide +kernel
abbrev cX1_init : ByteArray := prog_3_method_1_code
def yX1_init : MethodName := ⟨RX1, "<init>", "()V"⟩
abbrev cX1_start : ByteArray := prog_3_method_2_code
def yX1_start : MethodName := ⟨RX1, "start", "(III)V"⟩
abbrev cX1_setBack : ByteArray := prog_3_method_3_code
def yX1_setBack : MethodName := ⟨RX1, "setBack", "(I)V"⟩
abbrev cX1_stay : ByteArray := prog_3_method_4_code
def yX1_stay : MethodName := ⟨RX1, "stay", "(CI)V"⟩
abbrev cX1_advance : ByteArray := prog_3_method_5_code
def yX1_advance : MethodName := ⟨RX1, "advance", "()V"⟩
abbrev cX1_blame : ByteArray := prog_3_method_6_code
def yX1_blame : MethodName := ⟨RX1, "blame", "(CI)V"⟩
abbrev cX1_blameFirstHold : ByteArray := prog_3_method_7_code
def yX1_blameFirstHold : MethodName := ⟨RX1, "blameFirstHold", "()V"⟩
abbrev cX1_isInWindow : ByteArray := prog_3_method_8_code
def yX1_isInWindow : MethodName := ⟨RX1, "isInWindow", "(I)Z"⟩
def RX2 : String := "LaunchRange$Flight"
def TX2 : u_T := fun k => match k with
  | 0 => ("LaunchRange$Flight", "off", "[I", true)
  | 1 => ("LaunchRange$Flight", "leftAt", "I", false)
  | 2 => ("LaunchRange$Flight", "secondsApart", "I", false)
  | _ => ("LaunchRange$Flight", "hadGoodRules", "Z", false)
def tyX2 : Nat → FieldType := fun k => match k with
  | 0 => .array .int
  | 1 => .int
  | 2 => .int
  | _ => .boolean
abbrev wsX20 : List Cond := u_ws RX2 TX2 4
theorem nmX2 : ∀ a, a < 4 → ∀ b, b < 4 → a ≠ b → (TX2 a).2.1 ≠ (TX2 b).2.1 := by decide +kernel
theorem tyX2_ok : ∀ k, k < 4 → parseFieldDescriptor (TX2 k).2.2.1 = some (tyX2 k) := by decide +kernel
abbrev cX2_init : ByteArray := prog_4_method_1_code
def yX2_init : MethodName := ⟨RX2, "<init>", "()V"⟩
abbrev cX2_leave : ByteArray := prog_4_method_2_code
def yX2_leave : MethodName := ⟨RX2, "leave", "(IZ)V"⟩
abbrev cX2_compareRadars : ByteArray := prog_4_method_3_code
def yX2_compareRadars : MethodName := ⟨RX2, "compareRadars", "()V"⟩
abbrev cX2_isFarOff : ByteArray := prog_4_method_4_code
def yX2_isFarOff : MethodName := ⟨RX2, "isFarOff", "()Z"⟩
def RX3 : String := "LaunchRange$Lightnings"
def TX3 : u_T := fun k => match k with
  | 0 => ("LaunchRange$Lightnings", "inSecond", "[I", true)
  | _ => ("LaunchRange$Lightnings", "near", "I", false)
def tyX3 : Nat → FieldType := fun k => match k with
  | 0 => .array .int
  | _ => .int
abbrev wsX30 : List Cond := u_ws RX3 TX3 2
theorem nmX3 : ∀ a, a < 2 → ∀ b, b < 2 → a ≠ b → (TX3 a).2.1 ≠ (TX3 b).2.1 := by decide +kernel
theorem tyX3_ok : ∀ k, k < 2 → parseFieldDescriptor (TX3 k).2.2.1 = some (tyX3 k) := by decide +kernel
abbrev cX3_init : ByteArray := prog_5_method_1_code
def yX3_init : MethodName := ⟨RX3, "<init>", "()V"⟩
abbrev cX3_tell : ByteArray := prog_5_method_2_code
def yX3_tell : MethodName := ⟨RX3, "tell", "(I)V"⟩
abbrev cX3_forgetOld : ByteArray := prog_5_method_3_code
def yX3_forgetOld : MethodName := ⟨RX3, "forgetOld", "(I)V"⟩
def RX4 : String := "LaunchRange$Log"
def TX4 : u_T := fun k => match k with
  | 0 => ("LaunchRange$Log", "text", "Ljava/lang/StringBuilder;", true)
  | 1 => ("LaunchRange$Log", "state", "C", false)
  | _ => ("LaunchRange$Log", "changes", "I", false)
def tyX4 : Nat → FieldType := fun k => match k with
  | 0 => .object "java/lang/StringBuilder"
  | 1 => .char
  | _ => .int
abbrev wsX40 : List Cond := u_ws RX4 TX4 3
theorem nmX4 : ∀ a, a < 3 → ∀ b, b < 3 → a ≠ b → (TX4 a).2.1 ≠ (TX4 b).2.1 := by decide +kernel
theorem tyX4_ok : ∀ k, k < 3 → parseFieldDescriptor (TX4 k).2.2.1 = some (tyX4 k) := by decide +kernel
abbrev cX4_init : ByteArray := prog_6_method_1_code
def yX4_init : MethodName := ⟨RX4, "<init>", "()V"⟩
abbrev cX4_change : ByteArray := prog_6_method_2_code
def yX4_change : MethodName := ⟨RX4, "change", "(ICC)V"⟩
abbrev cX4_timesOf : ByteArray := prog_6_method_3_code
def yX4_timesOf : MethodName := ⟨RX4, "timesOf", "(C)I"⟩
abbrev cX4_tellsAll : ByteArray := prog_6_method_4_code
def yX4_tellsAll : MethodName := ⟨RX4, "tellsAll", "()Z"⟩
abbrev cX4_lastTold : ByteArray := prog_6_method_5_code
def yX4_lastTold : MethodName := ⟨RX4, "lastTold", "()C"⟩
abbrev cX4_stateBehind : ByteArray := prog_6_method_6_code
def yX4_stateBehind : MethodName := ⟨RX4, "stateBehind", "(C)C"⟩
def RX5 : String := "LaunchRange$Marks"
def TX5 : u_T := fun k => match k with
  | 0 => ("LaunchRange$Marks", "count", "[I", true)
  | 1 => ("LaunchRange$Marks", "seconds", "[I", true)
  | 2 => ("LaunchRange$Marks", "steps", "[I", true)
  | _ => ("LaunchRange$Marks", "size", "I", false)
def tyX5 : Nat → FieldType := fun k => match k with
  | 0 => .array .int
  | 1 => .array .int
  | 2 => .array .int
  | _ => .int
abbrev wsX50 : List Cond := u_ws RX5 TX5 4
theorem nmX5 : ∀ a, a < 4 → ∀ b, b < 4 → a ≠ b → (TX5 a).2.1 ≠ (TX5 b).2.1 := by decide +kernel
theorem tyX5_ok : ∀ k, k < 4 → parseFieldDescriptor (TX5 k).2.2.1 = some (tyX5 k) := by decide +kernel
abbrev cX5_init : ByteArray := prog_7_method_1_code
def yX5_init : MethodName := ⟨RX5, "<init>", "()V"⟩
abbrev cX5_find : ByteArray := prog_7_method_2_code
def yX5_find : MethodName := ⟨RX5, "find", "(I)I"⟩
abbrev cX5_insert : ByteArray := prog_7_method_3_code
def yX5_insert : MethodName := ⟨RX5, "insert", "(III)V"⟩
abbrev cX5_keep : ByteArray := prog_7_method_4_code
def yX5_keep : MethodName := ⟨RX5, "keep", "(IILLaunchRange$Steps;)Z"⟩
def RX6 : String := "LaunchRange$Rules"
def TX6 : u_T := fun k => match k with
  | 0 => ("LaunchRange$Rules", "kind", "[C", true)
  | 1 => ("LaunchRange$Rules", "about", "[I", true)
  | 2 => ("LaunchRange$Rules", "least", "[I", true)
  | 3 => ("LaunchRange$Rules", "greatest", "[I", true)
  | 4 => ("LaunchRange$Rules", "seconds", "[I", true)
  | 5 => ("LaunchRange$Rules", "seen", "[I", true)
  | 6 => ("LaunchRange$Rules", "heldFor", "[I", true)
  | 7 => ("LaunchRange$Rules", "waivers", "[I", true)
  | 8 => ("LaunchRange$Rules", "waivedBy", "[I", true)
  | 9 => ("LaunchRange$Rules", "waivedUntil", "[I", true)
  | _ => ("LaunchRange$Rules", "size", "I", false)
def tyX6 : Nat → FieldType := fun k => match k with
  | 0 => .array .char
  | 1 => .array .int
  | 2 => .array .int
  | 3 => .array .int
  | 4 => .array .int
  | 5 => .array .int
  | 6 => .array .int
  | 7 => .array .int
  | 8 => .array .int
  | 9 => .array .int
  | _ => .int
abbrev wsX60 : List Cond := u_ws RX6 TX6 11
theorem nmX6 : ∀ a, a < 11 → ∀ b, b < 11 → a ≠ b → (TX6 a).2.1 ≠ (TX6 b).2.1 := by decide +kernel
theorem tyX6_ok : ∀ k, k < 11 → parseFieldDescriptor (TX6 k).2.2.1 = some (tyX6 k) := by decide +kernel
abbrev cX6_init : ByteArray := prog_8_method_1_code
def yX6_init : MethodName := ⟨RX6, "<init>", "()V"⟩
abbrev cX6_append : ByteArray := prog_8_method_2_code
def yX6_append : MethodName := ⟨RX6, "append", "(CIIII)I"⟩
abbrev cX6_lookAt : ByteArray := prog_8_method_3_code
def yX6_lookAt : MethodName := ⟨RX6, "lookAt", "(II)V"⟩
abbrev cX6_holdsBy : ByteArray := prog_8_method_4_code
def yX6_holdsBy : MethodName := ⟨RX6, "holdsBy", "(II)Z"⟩
abbrev cX6_isMetBy : ByteArray := prog_8_method_5_code
def yX6_isMetBy : MethodName := ⟨RX6, "isMetBy", "(II)Z"⟩
abbrev cX6_isWaivedAt : ByteArray := prog_8_method_6_code
def yX6_isWaivedAt : MethodName := ⟨RX6, "isWaivedAt", "(II)Z"⟩
abbrev cX6_firstNotMet : ByteArray := prog_8_method_7_code
def yX6_firstNotMet : MethodName := ⟨RX6, "firstNotMet", "(I)I"⟩
abbrev cX6_areGood : ByteArray := prog_8_method_8_code
def yX6_areGood : MethodName := ⟨RX6, "areGood", "(I)Z"⟩
abbrev cX6_isWaiver : ByteArray := prog_8_method_9_code
def yX6_isWaiver : MethodName := ⟨RX6, "isWaiver", "(II)Z"⟩
abbrev cX6_endWaivers : ByteArray := prog_8_method_10_code
def yX6_endWaivers : MethodName := ⟨RX6, "endWaivers", "()V"⟩
def RX7 : String := "LaunchRange$Sensors"
def TX7 : u_T := fun k => match k with
  | 0 => ("LaunchRange$Sensors", "told", "[I", true)
  | _ => ("LaunchRange$Sensors", "isOut", "[Z", true)
def tyX7 : Nat → FieldType := fun k => match k with
  | 0 => .array .int
  | _ => .array .boolean
abbrev wsX70 : List Cond := u_ws RX7 TX7 2
theorem nmX7 : ∀ a, a < 2 → ∀ b, b < 2 → a ≠ b → (TX7 a).2.1 ≠ (TX7 b).2.1 := by decide +kernel
theorem tyX7_ok : ∀ k, k < 2 → parseFieldDescriptor (TX7 k).2.2.1 = some (tyX7 k) := by decide +kernel
abbrev cX7_init : ByteArray := prog_9_method_1_code
def yX7_init : MethodName := ⟨RX7, "<init>", "()V"⟩
abbrev cX7_countThatCount : ByteArray := prog_9_method_2_code
def yX7_countThatCount : MethodName := ⟨RX7, "countThatCount", "(I)I"⟩
abbrev cX7_isLastOfThree : ByteArray := prog_9_method_3_code
def yX7_isLastOfThree : MethodName := ⟨RX7, "isLastOfThree", "(I)Z"⟩
abbrev cX7_tellTogether : ByteArray := prog_9_method_4_code
def yX7_tellTogether : MethodName := ⟨RX7, "tellTogether", "(I)I"⟩
def RX8 : String := "LaunchRange$Steps"
def TX8 : u_T := fun k => match k with
  | 0 => ("LaunchRange$Steps", "from", "[I", true)
  | 1 => ("LaunchRange$Steps", "seconds", "[I", true)
  | 2 => ("LaunchRange$Steps", "left", "[I", true)
  | 3 => ("LaunchRange$Steps", "behind", "[I", true)
  | 4 => ("LaunchRange$Steps", "state", "[C", true)
  | _ => ("LaunchRange$Steps", "size", "I", false)
def tyX8 : Nat → FieldType := fun k => match k with
  | 0 => .array .int
  | 1 => .array .int
  | 2 => .array .int
  | 3 => .array .int
  | 4 => .array .char
  | _ => .int
abbrev wsX80 : List Cond := u_ws RX8 TX8 6
theorem nmX8 : ∀ a, a < 6 → ∀ b, b < 6 → a ≠ b → (TX8 a).2.1 ≠ (TX8 b).2.1 := by decide +kernel
theorem tyX8_ok : ∀ k, k < 6 → parseFieldDescriptor (TX8 k).2.2.1 = some (tyX8 k) := by decide +kernel
abbrev cX8_init : ByteArray := prog_10_method_1_code
def yX8_init : MethodName := ⟨RX8, "<init>", "()V"⟩
abbrev cX8_append : ByteArray := prog_10_method_2_code
def yX8_append : MethodName := ⟨RX8, "append", "(II)I"⟩
abbrev cX8_putBehind : ByteArray := prog_10_method_3_code
def yX8_putBehind : MethodName := ⟨RX8, "putBehind", "(II)I"⟩
abbrev cX8_haveAll : ByteArray := prog_10_method_4_code
def yX8_haveAll : MethodName := ⟨RX8, "haveAll", "(I)Z"⟩
abbrev cX8_areDone : ByteArray := prog_10_method_5_code
def yX8_areDone : MethodName := ⟨RX8, "areDone", "(I)Z"⟩
abbrev cX8_doneOnes : ByteArray := prog_10_method_6_code
def yX8_doneOnes : MethodName := ⟨RX8, "doneOnes", "()I"⟩
abbrev cX8_startAgain : ByteArray := prog_10_method_7_code
def yX8_startAgain : MethodName := ⟨RX8, "startAgain", "()V"⟩
abbrev cX8_undoFrom : ByteArray := prog_10_method_8_code
def yX8_undoFrom : MethodName := ⟨RX8, "undoFrom", "(I)I"⟩
abbrev cX8_work : ByteArray := prog_10_method_9_code
def yX8_work : MethodName := ⟨RX8, "work", "(I)V"⟩
def RX9 : String := "LaunchRange$Tanks"
def TX9 : u_T := fun k => match k with
  | 0 => ("LaunchRange$Tanks", "room", "[I", true)
  | 1 => ("LaunchRange$Tanks", "rate", "[I", true)
  | 2 => ("LaunchRange$Tanks", "boil", "[I", true)
  | 3 => ("LaunchRange$Tanks", "amount", "[I", true)
  | _ => ("LaunchRange$Tanks", "isOpen", "[Z", true)
def tyX9 : Nat → FieldType := fun k => match k with
  | 0 => .array .int
  | 1 => .array .int
  | 2 => .array .int
  | 3 => .array .int
  | _ => .array .boolean
abbrev wsX90 : List Cond := u_ws RX9 TX9 5
theorem nmX9 : ∀ a, a < 5 → ∀ b, b < 5 → a ≠ b → (TX9 a).2.1 ≠ (TX9 b).2.1 := by decide +kernel
theorem tyX9_ok : ∀ k, k < 5 → parseFieldDescriptor (TX9 k).2.2.1 = some (tyX9 k) := by decide +kernel
abbrev cX9_init : ByteArray := prog_11_method_1_code
def yX9_init : MethodName := ⟨RX9, "<init>", "()V"⟩
abbrev cX9_define : ByteArray := prog_11_method_2_code
def yX9_define : MethodName := ⟨RX9, "define", "(IIII)I"⟩
abbrev cX9_takeOut : ByteArray := prog_11_method_3_code
def yX9_takeOut : MethodName := ⟨RX9, "takeOut", "(II)I"⟩
abbrev cX9_boilAndFill : ByteArray := prog_11_method_4_code
def yX9_boilAndFill : MethodName := ⟨RX9, "boilAndFill", "()V"⟩
abbrev cX9_countWithRoom : ByteArray := prog_11_method_5_code
def yX9_countWithRoom : MethodName := ⟨RX9, "countWithRoom", "()I"⟩
abbrev cX9_sumOfShares : ByteArray := prog_11_method_6_code
def yX9_sumOfShares : MethodName := ⟨RX9, "sumOfShares", "()D"⟩
abbrev cX9_areWithinRoom : ByteArray := prog_11_method_7_code
def yX9_areWithinRoom : MethodName := ⟨RX9, "areWithinRoom", "()Z"⟩
def RX10 : String := "LaunchRange"
def TX10 : u_T := fun k => match k with
  | 0 => ("LaunchRange", "tanks", "LLaunchRange$Tanks;", true)
  | 1 => ("LaunchRange", "steps", "LLaunchRange$Steps;", true)
  | 2 => ("LaunchRange", "marks", "LLaunchRange$Marks;", true)
  | 3 => ("LaunchRange", "sensors", "LLaunchRange$Sensors;", true)
  | 4 => ("LaunchRange", "lightnings", "LLaunchRange$Lightnings;", true)
  | 5 => ("LaunchRange", "boats", "LLaunchRange$Boats;", true)
  | 6 => ("LaunchRange", "rules", "LLaunchRange$Rules;", true)
  | 7 => ("LaunchRange", "countdown", "LLaunchRange$Countdown;", true)
  | 8 => ("LaunchRange", "flight", "LLaunchRange$Flight;", true)
  | 9 => ("LaunchRange", "log", "LLaunchRange$Log;", true)
  | 10 => ("LaunchRange", "saysGo", "[Z", true)
  | 11 => ("LaunchRange", "windNow", "I", false)
  | _ => ("LaunchRange", "now", "I", false)
def tyX10 : Nat → FieldType := fun k => match k with
  | 0 => .object "LaunchRange$Tanks"
  | 1 => .object "LaunchRange$Steps"
  | 2 => .object "LaunchRange$Marks"
  | 3 => .object "LaunchRange$Sensors"
  | 4 => .object "LaunchRange$Lightnings"
  | 5 => .object "LaunchRange$Boats"
  | 6 => .object "LaunchRange$Rules"
  | 7 => .object "LaunchRange$Countdown"
  | 8 => .object "LaunchRange$Flight"
  | 9 => .object "LaunchRange$Log"
  | 10 => .array .boolean
  | 11 => .int
  | _ => .int
abbrev wsX100 : List Cond := u_ws RX10 TX10 13
theorem nmX10 : ∀ a, a < 13 → ∀ b, b < 13 → a ≠ b → (TX10 a).2.1 ≠ (TX10 b).2.1 := by decide +kernel
theorem tyX10_ok : ∀ k, k < 13 → parseFieldDescriptor (TX10 k).2.2.1 = some (tyX10 k) := by decide +kernel
abbrev cX10_init : ByteArray := prog_1_method_1_code
def yX10_init : MethodName := ⟨RX10, "<init>", "()V"⟩
abbrev cX10_setTank : ByteArray := prog_1_method_2_code
def yX10_setTank : MethodName := ⟨RX10, "setTank", "(IIII)I"⟩
abbrev cX10_setValve : ByteArray := prog_1_method_3_code
def yX10_setValve : MethodName := ⟨RX10, "setValve", "(IZ)Z"⟩
abbrev cX10_drain : ByteArray := prog_1_method_4_code
def yX10_drain : MethodName := ⟨RX10, "drain", "(II)I"⟩
abbrev cX10_inTank : ByteArray := prog_1_method_5_code
def yX10_inTank : MethodName := ⟨RX10, "inTank", "(I)I"⟩
abbrev cX10_addStep : ByteArray := prog_1_method_6_code
def yX10_addStep : MethodName := ⟨RX10, "addStep", "(II)I"⟩
abbrev cX10_setAfter : ByteArray := prog_1_method_7_code
def yX10_setAfter : MethodName := ⟨RX10, "setAfter", "(II)I"⟩
abbrev cX10_stepState : ByteArray := prog_1_method_8_code
def yX10_stepState : MethodName := ⟨RX10, "stepState", "(I)C"⟩
abbrev cX10_addMark : ByteArray := prog_1_method_9_code
def yX10_addMark : MethodName := ⟨RX10, "addMark", "(III)I"⟩
abbrev cX10_sense : ByteArray := prog_1_method_10_code
def yX10_sense : MethodName := ⟨RX10, "sense", "(II)I"⟩
abbrev cX10_inhibit : ByteArray := prog_1_method_11_code
def yX10_inhibit : MethodName := ⟨RX10, "inhibit", "(IZ)I"⟩
abbrev cX10_setWind : ByteArray := prog_1_method_12_code
def yX10_setWind : MethodName := ⟨RX10, "setWind", "(I)I"⟩
abbrev cX10_strike : ByteArray := prog_1_method_13_code
def yX10_strike : MethodName := ⟨RX10, "strike", "(I)I"⟩
abbrev cX10_boat : ByteArray := prog_1_method_14_code
def yX10_boat : MethodName := ⟨RX10, "boat", "(III)I"⟩
abbrev cX10_addRule : ByteArray := prog_1_method_15_code
def yX10_addRule : MethodName := ⟨RX10, "addRule", "(CIIII)I"⟩
abbrev cX10_mayWaive : ByteArray := prog_1_method_16_code
def yX10_mayWaive : MethodName := ⟨RX10, "mayWaive", "(II)Z"⟩
abbrev cX10_waive : ByteArray := prog_1_method_17_code
def yX10_waive : MethodName := ⟨RX10, "waive", "(III)Z"⟩
abbrev cX10_go : ByteArray := prog_1_method_18_code
def yX10_go : MethodName := ⟨RX10, "go", "(IZ)Z"⟩
abbrev cX10_value : ByteArray := prog_1_method_19_code
def yX10_value : MethodName := ⟨RX10, "value", "(I)I"⟩
abbrev cX10_holdsFor : ByteArray := prog_1_method_20_code
def yX10_holdsFor : MethodName := ⟨RX10, "holdsFor", "(I)I"⟩
abbrev cX10_isMet : ByteArray := prog_1_method_21_code
def yX10_isMet : MethodName := ⟨RX10, "isMet", "(I)Z"⟩
abbrev cX10_begin : ByteArray := prog_1_method_22_code
def yX10_begin : MethodName := ⟨RX10, "begin", "(III)I"⟩
abbrev cX10_recycle : ByteArray := prog_1_method_23_code
def yX10_recycle : MethodName := ⟨RX10, "recycle", "(I)I"⟩
abbrev cX10_scrub : ByteArray := prog_1_method_24_code
def yX10_scrub : MethodName := ⟨RX10, "scrub", "()Z"⟩
abbrev cX10_pass : ByteArray := prog_1_method_25_code
def yX10_pass : MethodName := ⟨RX10, "pass", "(I)I"⟩
abbrev cX10_track : ByteArray := prog_1_method_26_code
def yX10_track : MethodName := ⟨RX10, "track", "(II)I"⟩
abbrev cX10_state : ByteArray := prog_1_method_27_code
def yX10_state : MethodName := ⟨RX10, "state", "()C"⟩
abbrev cX10_count : ByteArray := prog_1_method_28_code
def yX10_count : MethodName := ⟨RX10, "count", "()I"⟩
abbrev cX10_second : ByteArray := prog_1_method_29_code
def yX10_second : MethodName := ⟨RX10, "second", "()I"⟩
abbrev cX10_holds : ByteArray := prog_1_method_30_code
def yX10_holds : MethodName := ⟨RX10, "holds", "()I"⟩
abbrev cX10_cause : ByteArray := prog_1_method_31_code
def yX10_cause : MethodName := ⟨RX10, "cause", "()C"⟩
abbrev cX10_causeRule : ByteArray := prog_1_method_32_code
def yX10_causeRule : MethodName := ⟨RX10, "causeRule", "()I"⟩
abbrev cX10_risk : ByteArray := prog_1_method_33_code
def yX10_risk : MethodName := ⟨RX10, "risk", "()I"⟩
abbrev cX10_logLength : ByteArray := prog_1_method_34_code
def yX10_logLength : MethodName := ⟨RX10, "logLength", "()I"⟩
abbrev cX10_logAt : ByteArray := prog_1_method_35_code
def yX10_logAt : MethodName := ⟨RX10, "logAt", "(I)C"⟩
abbrev cX10_logged : ByteArray := prog_1_method_36_code
def yX10_logged : MethodName := ⟨RX10, "logged", "(C)I"⟩
abbrev cX10_checksum : ByteArray := prog_1_method_37_code
def yX10_checksum : MethodName := ⟨RX10, "checksum", "()J"⟩
abbrev cX10_metShare : ByteArray := prog_1_method_38_code
def yX10_metShare : MethodName := ⟨RX10, "metShare", "()F"⟩
abbrev cX10_meanFill : ByteArray := prog_1_method_39_code
def yX10_meanFill : MethodName := ⟨RX10, "meanFill", "()D"⟩
abbrev cX10_isSound : ByteArray := prog_1_method_40_code
def yX10_isSound : MethodName := ⟨RX10, "isSound", "()Z"⟩
abbrev cX10_isWithin : ByteArray := prog_1_method_41_code
def yX10_isWithin : MethodName := ⟨RX10, "isWithin", "(III)Z"⟩
abbrev cX10_isBelow : ByteArray := prog_1_method_42_code
def yX10_isBelow : MethodName := ⟨RX10, "isBelow", "(II)Z"⟩
abbrev cX10_isThing : ByteArray := prog_1_method_43_code
def yX10_isThing : MethodName := ⟨RX10, "isThing", "(CI)Z"⟩
abbrev cX10_isCountOn : ByteArray := prog_1_method_44_code
def yX10_isCountOn : MethodName := ⟨RX10, "isCountOn", "()Z"⟩
abbrev cX10_hasLeft : ByteArray := prog_1_method_45_code
def yX10_hasLeft : MethodName := ⟨RX10, "hasLeft", "()Z"⟩
abbrev cX10_isPlanFixed : ByteArray := prog_1_method_46_code
def yX10_isPlanFixed : MethodName := ⟨RX10, "isPlanFixed", "()Z"⟩
abbrev cX10_isThereCause : ByteArray := prog_1_method_47_code
def yX10_isThereCause : MethodName := ⟨RX10, "isThereCause", "()Z"⟩
abbrev cX10_valueFor : ByteArray := prog_1_method_48_code
def yX10_valueFor : MethodName := ⟨RX10, "valueFor", "(I)I"⟩
abbrev cX10_isWaived : ByteArray := prog_1_method_49_code
def yX10_isWaived : MethodName := ⟨RX10, "isWaived", "(I)Z"⟩
abbrev cX10_isMetOrWaived : ByteArray := prog_1_method_50_code
def yX10_isMetOrWaived : MethodName := ⟨RX10, "isMetOrWaived", "(I)Z"⟩
abbrev cX10_goThroughSecond : ByteArray := prog_1_method_51_code
def yX10_goThroughSecond : MethodName := ⟨RX10, "goThroughSecond", "()V"⟩
abbrev cX10_countOn : ByteArray := prog_1_method_52_code
def yX10_countOn : MethodName := ⟨RX10, "countOn", "()V"⟩
abbrev cX10_hold : ByteArray := prog_1_method_53_code
def yX10_hold : MethodName := ⟨RX10, "hold", "(CI)V"⟩
abbrev cX10_goFurther : ByteArray := prog_1_method_54_code
def yX10_goFurther : MethodName := ⟨RX10, "goFurther", "()V"⟩
abbrev cX10_flyOn : ByteArray := prog_1_method_55_code
def yX10_flyOn : MethodName := ⟨RX10, "flyOn", "()V"⟩
abbrev cX10_destroy : ByteArray := prog_1_method_56_code
def yX10_destroy : MethodName := ⟨RX10, "destroy", "(C)V"⟩
def RX11 : String := "LaunchRangeModel"
def TX11 : u_T := fun k => match k with
  | 0 => ("LaunchRangeModel", "thrown", "I", false)
  | 1 => ("LaunchRangeModel", "second", "I", false)
  | 2 => ("LaunchRangeModel", "state", "C", false)
  | 3 => ("LaunchRangeModel", "wasBegun", "Z", false)
  | 4 => ("LaunchRangeModel", "count", "I", false)
  | 5 => ("LaunchRangeModel", "opens", "J", false)
  | 6 => ("LaunchRangeModel", "shuts", "J", false)
  | 7 => ("LaunchRangeModel", "holds", "I", false)
  | 8 => ("LaunchRangeModel", "stayed", "I", false)
  | 9 => ("LaunchRangeModel", "cause", "C", false)
  | 10 => ("LaunchRangeModel", "causeRule", "I", false)
  | 11 => ("LaunchRangeModel", "firstCause", "C", false)
  | 12 => ("LaunchRangeModel", "firstRule", "I", false)
  | 13 => ("LaunchRangeModel", "flown", "I", false)
  | 14 => ("LaunchRangeModel", "unlike", "I", false)
  | 15 => ("LaunchRangeModel", "room", "[I", true)
  | 16 => ("LaunchRangeModel", "rate", "[I", true)
  | 17 => ("LaunchRangeModel", "boil", "[I", true)
  | 18 => ("LaunchRangeModel", "inTank", "[I", true)
  | 19 => ("LaunchRangeModel", "isOpen", "[Z", true)
  | 20 => ("LaunchRangeModel", "steps", "I", false)
  | 21 => ("LaunchRangeModel", "from", "[I", true)
  | 22 => ("LaunchRangeModel", "takes", "[I", true)
  | 23 => ("LaunchRangeModel", "ahead", "[I", true)
  | 24 => ("LaunchRangeModel", "stepState", "[C", true)
  | 25 => ("LaunchRangeModel", "left", "[I", true)
  | 26 => ("LaunchRangeModel", "marks", "I", false)
  | 27 => ("LaunchRangeModel", "markCount", "[I", true)
  | 28 => ("LaunchRangeModel", "markSeconds", "[I", true)
  | 29 => ("LaunchRangeModel", "markSteps", "[I", true)
  | 30 => ("LaunchRangeModel", "sensed", "[I", true)
  | 31 => ("LaunchRangeModel", "isOut", "[Z", true)
  | 32 => ("LaunchRangeModel", "wind", "I", false)
  | 33 => ("LaunchRangeModel", "strikes", "I", false)
  | 34 => ("LaunchRangeModel", "struckAt", "[I", false)
  | 35 => ("LaunchRangeModel", "people", "[I", true)
  | 36 => ("LaunchRangeModel", "distance", "[I", true)
  | 37 => ("LaunchRangeModel", "saysGo", "[Z", true)
  | 38 => ("LaunchRangeModel", "radar", "[I", true)
  | 39 => ("LaunchRangeModel", "rules", "I", false)
  | 40 => ("LaunchRangeModel", "kind", "[C", true)
  | 41 => ("LaunchRangeModel", "about", "[I", true)
  | 42 => ("LaunchRangeModel", "least", "[I", true)
  | 43 => ("LaunchRangeModel", "greatest", "[I", true)
  | 44 => ("LaunchRangeModel", "seconds", "[I", true)
  | 45 => ("LaunchRangeModel", "held", "[I", true)
  | 46 => ("LaunchRangeModel", "isWaived", "[Z", true)
  | 47 => ("LaunchRangeModel", "waivedTo", "[I", true)
  | 48 => ("LaunchRangeModel", "may", "[Z", true)
  | _ => ("LaunchRangeModel", "log", "Ljava/lang/StringBuilder;", true)
def tyX11 : Nat → FieldType := fun k => match k with
  | 0 => .int
  | 1 => .int
  | 2 => .char
  | 3 => .boolean
  | 4 => .int
  | 5 => .long
  | 6 => .long
  | 7 => .int
  | 8 => .int
  | 9 => .char
  | 10 => .int
  | 11 => .char
  | 12 => .int
  | 13 => .int
  | 14 => .int
  | 15 => .array .int
  | 16 => .array .int
  | 17 => .array .int
  | 18 => .array .int
  | 19 => .array .boolean
  | 20 => .int
  | 21 => .array .int
  | 22 => .array .int
  | 23 => .array .int
  | 24 => .array .char
  | 25 => .array .int
  | 26 => .int
  | 27 => .array .int
  | 28 => .array .int
  | 29 => .array .int
  | 30 => .array .int
  | 31 => .array .boolean
  | 32 => .int
  | 33 => .int
  | 34 => .array .int
  | 35 => .array .int
  | 36 => .array .int
  | 37 => .array .boolean
  | 38 => .array .int
  | 39 => .int
  | 40 => .array .char
  | 41 => .array .int
  | 42 => .array .int
  | 43 => .array .int
  | 44 => .array .int
  | 45 => .array .int
  | 46 => .array .boolean
  | 47 => .array .int
  | 48 => .array .boolean
  | _ => .object "java/lang/StringBuilder"
abbrev wsX110 : List Cond := u_ws RX11 TX11 50
theorem nmX11 : ∀ a, a < 50 → ∀ b, b < 50 → a ≠ b → (TX11 a).2.1 ≠ (TX11 b).2.1 := by decide +kernel
theorem tyX11_ok : ∀ k, k < 50 → parseFieldDescriptor (TX11 k).2.2.1 = some (tyX11 k) := by decide +kernel
abbrev cX11_init : ByteArray := prog_13_method_1_code
def yX11_init : MethodName := ⟨RX11, "<init>", "()V"⟩
abbrev cX11_thrown : ByteArray := prog_13_method_2_code
def yX11_thrown : MethodName := ⟨RX11, "thrown", "()I"⟩
abbrev cX11_in : ByteArray := prog_13_method_3_code
def yX11_in : MethodName := ⟨RX11, "in", "(JJJ)Z"⟩
abbrev cX11_fails : ByteArray := prog_13_method_4_code
def yX11_fails : MethodName := ⟨RX11, "fails", "(ZI)Z"⟩
abbrev cX11_isCounting : ByteArray := prog_13_method_5_code
def yX11_isCounting : MethodName := ⟨RX11, "isCounting", "()Z"⟩
abbrev cX11_hasLeft : ByteArray := prog_13_method_6_code
def yX11_hasLeft : MethodName := ⟨RX11, "hasLeft", "()Z"⟩
abbrev cX11_note : ByteArray := prog_13_method_7_code
def yX11_note : MethodName := ⟨RX11, "note", "(C)V"⟩
abbrev cX11_noTank : ByteArray := prog_13_method_8_code
def yX11_noTank : MethodName := ⟨RX11, "noTank", "(I)Z"⟩
abbrev cX11_setTank : ByteArray := prog_13_method_9_code
def yX11_setTank : MethodName := ⟨RX11, "setTank", "(IIII)I"⟩
abbrev cX11_setValve : ByteArray := prog_13_method_10_code
def yX11_setValve : MethodName := ⟨RX11, "setValve", "(IZ)Z"⟩
abbrev cX11_drain : ByteArray := prog_13_method_11_code
def yX11_drain : MethodName := ⟨RX11, "drain", "(II)I"⟩
abbrev cX11_inTank : ByteArray := prog_13_method_12_code
def yX11_inTank : MethodName := ⟨RX11, "inTank", "(I)I"⟩
abbrev cX11_addStep : ByteArray := prog_13_method_13_code
def yX11_addStep : MethodName := ⟨RX11, "addStep", "(II)I"⟩
abbrev cX11_noStep : ByteArray := prog_13_method_14_code
def yX11_noStep : MethodName := ⟨RX11, "noStep", "(I)Z"⟩
abbrev cX11_setAfter : ByteArray := prog_13_method_15_code
def yX11_setAfter : MethodName := ⟨RX11, "setAfter", "(II)I"⟩
abbrev cX11_stepState : ByteArray := prog_13_method_16_code
def yX11_stepState : MethodName := ⟨RX11, "stepState", "(I)C"⟩
abbrev cX11_markAt : ByteArray := prog_13_method_17_code
def yX11_markAt : MethodName := ⟨RX11, "markAt", "(I)I"⟩
abbrev cX11_addMark : ByteArray := prog_13_method_18_code
def yX11_addMark : MethodName := ⟨RX11, "addMark", "(III)I"⟩
abbrev cX11_counting : ByteArray := prog_13_method_19_code
def yX11_counting : MethodName := ⟨RX11, "counting", "(I)I"⟩
abbrev cX11_together : ByteArray := prog_13_method_20_code
def yX11_together : MethodName := ⟨RX11, "together", "(I)I"⟩
abbrev cX11_sense : ByteArray := prog_13_method_21_code
def yX11_sense : MethodName := ⟨RX11, "sense", "(II)I"⟩
abbrev cX11_inhibit : ByteArray := prog_13_method_22_code
def yX11_inhibit : MethodName := ⟨RX11, "inhibit", "(IZ)I"⟩
abbrev cX11_setWind : ByteArray := prog_13_method_23_code
def yX11_setWind : MethodName := ⟨RX11, "setWind", "(I)I"⟩
abbrev cX11_near : ByteArray := prog_13_method_24_code
def yX11_near : MethodName := ⟨RX11, "near", "()I"⟩
abbrev cX11_strike : ByteArray := prog_13_method_25_code
def yX11_strike : MethodName := ⟨RX11, "strike", "(I)I"⟩
abbrev cX11_riskOfAll : ByteArray := prog_13_method_26_code
def yX11_riskOfAll : MethodName := ⟨RX11, "riskOfAll", "()I"⟩
abbrev cX11_boat : ByteArray := prog_13_method_27_code
def yX11_boat : MethodName := ⟨RX11, "boat", "(III)I"⟩
abbrev cX11_addRule : ByteArray := prog_13_method_28_code
def yX11_addRule : MethodName := ⟨RX11, "addRule", "(CIIII)I"⟩
abbrev cX11_noRule : ByteArray := prog_13_method_29_code
def yX11_noRule : MethodName := ⟨RX11, "noRule", "(I)Z"⟩
abbrev cX11_noConsole : ByteArray := prog_13_method_30_code
def yX11_noConsole : MethodName := ⟨RX11, "noConsole", "(I)Z"⟩
abbrev cX11_mayWaive : ByteArray := prog_13_method_31_code
def yX11_mayWaive : MethodName := ⟨RX11, "mayWaive", "(II)Z"⟩
abbrev cX11_isWaivedNow : ByteArray := prog_13_method_32_code
def yX11_isWaivedNow : MethodName := ⟨RX11, "isWaivedNow", "(I)Z"⟩
abbrev cX11_waive : ByteArray := prog_13_method_33_code
def yX11_waive : MethodName := ⟨RX11, "waive", "(III)Z"⟩
abbrev cX11_endWaivers : ByteArray := prog_13_method_34_code
def yX11_endWaivers : MethodName := ⟨RX11, "endWaivers", "()V"⟩
abbrev cX11_go : ByteArray := prog_13_method_35_code
def yX11_go : MethodName := ⟨RX11, "go", "(IZ)Z"⟩
abbrev cX11_valueOf : ByteArray := prog_13_method_36_code
def yX11_valueOf : MethodName := ⟨RX11, "valueOf", "(I)I"⟩
abbrev cX11_value : ByteArray := prog_13_method_37_code
def yX11_value : MethodName := ⟨RX11, "value", "(I)I"⟩
abbrev cX11_holdsFor : ByteArray := prog_13_method_38_code
def yX11_holdsFor : MethodName := ⟨RX11, "holdsFor", "(I)I"⟩
abbrev cX11_holdsNow : ByteArray := prog_13_method_39_code
def yX11_holdsNow : MethodName := ⟨RX11, "holdsNow", "(I)Z"⟩
abbrev cX11_isMetNow : ByteArray := prog_13_method_40_code
def yX11_isMetNow : MethodName := ⟨RX11, "isMetNow", "(I)Z"⟩
abbrev cX11_isMet : ByteArray := prog_13_method_41_code
def yX11_isMet : MethodName := ⟨RX11, "isMet", "(I)Z"⟩
abbrev cX11_begin : ByteArray := prog_13_method_42_code
def yX11_begin : MethodName := ⟨RX11, "begin", "(III)I"⟩
abbrev cX11_recycle : ByteArray := prog_13_method_43_code
def yX11_recycle : MethodName := ⟨RX11, "recycle", "(I)I"⟩
abbrev cX11_callOff : ByteArray := prog_13_method_44_code
def yX11_callOff : MethodName := ⟨RX11, "callOff", "(CI)V"⟩
abbrev cX11_scrub : ByteArray := prog_13_method_45_code
def yX11_scrub : MethodName := ⟨RX11, "scrub", "()Z"⟩
abbrev cX11_goTanks : ByteArray := prog_13_method_46_code
def yX11_goTanks : MethodName := ⟨RX11, "goTanks", "()V"⟩
abbrev cX11_areDone : ByteArray := prog_13_method_47_code
def yX11_areDone : MethodName := ⟨RX11, "areDone", "(I)Z"⟩
abbrev cX11_goSteps : ByteArray := prog_13_method_48_code
def yX11_goSteps : MethodName := ⟨RX11, "goSteps", "()V"⟩
abbrev cX11_why : ByteArray := prog_13_method_49_code
def yX11_why : MethodName := ⟨RX11, "why", "()C"⟩
abbrev cX11_goCount : ByteArray := prog_13_method_50_code
def yX11_goCount : MethodName := ⟨RX11, "goCount", "()V"⟩
abbrev cX11_goFlight : ByteArray := prog_13_method_51_code
def yX11_goFlight : MethodName := ⟨RX11, "goFlight", "()V"⟩
abbrev cX11_pass : ByteArray := prog_13_method_52_code
def yX11_pass : MethodName := ⟨RX11, "pass", "(I)I"⟩
abbrev cX11_track : ByteArray := prog_13_method_53_code
def yX11_track : MethodName := ⟨RX11, "track", "(II)I"⟩
abbrev cX11_state : ByteArray := prog_13_method_54_code
def yX11_state : MethodName := ⟨RX11, "state", "()C"⟩
abbrev cX11_count : ByteArray := prog_13_method_55_code
def yX11_count : MethodName := ⟨RX11, "count", "()I"⟩
abbrev cX11_second : ByteArray := prog_13_method_56_code
def yX11_second : MethodName := ⟨RX11, "second", "()I"⟩
abbrev cX11_holds : ByteArray := prog_13_method_57_code
def yX11_holds : MethodName := ⟨RX11, "holds", "()I"⟩
abbrev cX11_hasCause : ByteArray := prog_13_method_58_code
def yX11_hasCause : MethodName := ⟨RX11, "hasCause", "()Z"⟩
abbrev cX11_cause : ByteArray := prog_13_method_59_code
def yX11_cause : MethodName := ⟨RX11, "cause", "()C"⟩
abbrev cX11_causeRule : ByteArray := prog_13_method_60_code
def yX11_causeRule : MethodName := ⟨RX11, "causeRule", "()I"⟩
abbrev cX11_risk : ByteArray := prog_13_method_61_code
def yX11_risk : MethodName := ⟨RX11, "risk", "()I"⟩
abbrev cX11_logLength : ByteArray := prog_13_method_62_code
def yX11_logLength : MethodName := ⟨RX11, "logLength", "()I"⟩
abbrev cX11_logAt : ByteArray := prog_13_method_63_code
def yX11_logAt : MethodName := ⟨RX11, "logAt", "(I)C"⟩
abbrev cX11_logged : ByteArray := prog_13_method_64_code
def yX11_logged : MethodName := ⟨RX11, "logged", "(C)I"⟩
abbrev cX11_checksum : ByteArray := prog_13_method_65_code
def yX11_checksum : MethodName := ⟨RX11, "checksum", "()J"⟩
abbrev cX11_metShare : ByteArray := prog_13_method_66_code
def yX11_metShare : MethodName := ⟨RX11, "metShare", "()F"⟩
abbrev cX11_meanFill : ByteArray := prog_13_method_67_code
def yX11_meanFill : MethodName := ⟨RX11, "meanFill", "()D"⟩
abbrev cX11_isSound : ByteArray := prog_13_method_68_code
def yX11_isSound : MethodName := ⟨RX11, "isSound", "()Z"⟩
def RJx145de : String := "java/io/Serializable"
def TJx145de : u_T := fun k => match k with
  | _ => ("", "", "", false)
def tyJx145de : Nat → FieldType := fun k => match k with
  | _ => .int
abbrev wsJx145de0 : List Cond := u_ws RJx145de TJx145de 0
theorem nmJx145de : ∀ a, a < 0 → ∀ b, b < 0 → a ≠ b → (TJx145de a).2.1 ≠ (TJx145de b).2.1 := by decide +kernel
theorem tyJx145de_ok : ∀ k, k < 0 → parseFieldDescriptor (TJx145de k).2.2.1 = some (tyJx145de k) := by decide +kernel
def RJ5 : String := "java/lang/AbstractStringBuilder"
def TJ5 : u_T := fun k => match k with
  | _ => ("", "", "", false)
def tyJ5 : Nat → FieldType := fun k => match k with
  | _ => .int
abbrev wsJ50 : List Cond := u_ws RJ5 TJ5 0
theorem nmJ5 : ∀ a, a < 0 → ∀ b, b < 0 → a ≠ b → (TJ5 a).2.1 ≠ (TJ5 b).2.1 := by decide +kernel
theorem tyJ5_ok : ∀ k, k < 0 → parseFieldDescriptor (TJ5 k).2.2.1 = some (tyJ5 k) := by decide +kernel
abbrev cJ5_init_d00df : ByteArray := prog_15_method_2_code
def yJ5_init_d00df : MethodName := ⟨RJ5, "<init>", "(I)V"⟩
abbrev cJ5_length_8abf5 : ByteArray := prog_15_method_6_code
def yJ5_length_8abf5 : MethodName := ⟨RJ5, "length", "()I"⟩
abbrev cJ5_ensureCapacityInternal_d00df : ByteArray := prog_15_method_9_code
def yJ5_ensureCapacityInternal_d00df : MethodName := ⟨RJ5, "ensureCapacityInternal", "(I)V"⟩
abbrev cJ5_newCapacity_0f7a4 : ByteArray := prog_15_method_10_code
def yJ5_newCapacity_0f7a4 : MethodName := ⟨RJ5, "newCapacity", "(I)I"⟩
abbrev cJ5_inflate_da8c8 : ByteArray := prog_15_method_11_code
def yJ5_inflate_da8c8 : MethodName := ⟨RJ5, "inflate", "()V"⟩
abbrev cJ5_charAt_5068e : ByteArray := prog_15_method_14_code
def yJ5_charAt_5068e : MethodName := ⟨RJ5, "charAt", "(I)C"⟩
abbrev cJ5_append_3fe6f : ByteArray := prog_15_method_31_code
def yJ5_append_3fe6f : MethodName := ⟨RJ5, "append", "(C)Ljava/lang/AbstractStringBuilder;"⟩
abbrev cJ5_append_c97b9 : ByteArray := prog_15_method_32_code
def yJ5_append_c97b9 : MethodName := ⟨RJ5, "append", "(I)Ljava/lang/AbstractStringBuilder;"⟩
abbrev cJ5_isLatin1_aae02 : ByteArray := prog_15_method_68_code
def yJ5_isLatin1_aae02 : MethodName := ⟨RJ5, "isLatin1", "()Z"⟩
def RJx2cfe8 : String := "java/lang/Appendable"
def TJx2cfe8 : u_T := fun k => match k with
  | _ => ("", "", "", false)
def tyJx2cfe8 : Nat → FieldType := fun k => match k with
  | _ => .int
abbrev wsJx2cfe80 : List Cond := u_ws RJx2cfe8 TJx2cfe8 0
theorem nmJx2cfe8 : ∀ a, a < 0 → ∀ b, b < 0 → a ≠ b → (TJx2cfe8 a).2.1 ≠ (TJx2cfe8 b).2.1 := by decide +kernel
theorem tyJx2cfe8_ok : ∀ k, k < 0 → parseFieldDescriptor (TJx2cfe8 k).2.2.1 = some (tyJx2cfe8 k) := by decide +kernel
def RJx00060 : String := "java/lang/ArrayIndexOutOfBoundsException"
def TJx00060 : u_T := fun k => match k with
  | 0 => ("java/lang/Throwable", "backtrace", "Ljava/lang/Object;", false)
  | 1 => ("java/lang/Throwable", "detailMessage", "Ljava/lang/String;", false)
  | 2 => ("java/lang/Throwable", "cause", "Ljava/lang/Throwable;", false)
  | 3 => ("java/lang/Throwable", "stackTrace", "[Ljava/lang/StackTraceElement;", false)
  | 4 => ("java/lang/Throwable", "depth", "I", false)
  | _ => ("java/lang/Throwable", "suppressedExceptions", "Ljava/util/List;", false)
def tyJx00060 : Nat → FieldType := fun k => match k with
  | 0 => .object "java/lang/Object"
  | 1 => .object "java/lang/String"
  | 2 => .object "java/lang/Throwable"
  | 3 => .array (.object "java/lang/StackTraceElement")
  | 4 => .int
  | _ => .object "java/util/List"
abbrev wsJx000600 : List Cond := u_ws RJx00060 TJx00060 6
theorem nmJx00060 : ∀ a, a < 6 → ∀ b, b < 6 → a ≠ b → (TJx00060 a).2.1 ≠ (TJx00060 b).2.1 := by decide +kernel
theorem tyJx00060_ok : ∀ k, k < 6 → parseFieldDescriptor (TJx00060 k).2.2.1 = some (tyJx00060 k) := by decide +kernel
abbrev cJx00060_init_a7421 : ByteArray := prog_18_method_2_code
def yJx00060_init_a7421 : MethodName := ⟨RJx00060, "<init>", "(Ljava/lang/String;)V"⟩
def RJx9f9b0 : String := "java/lang/CharSequence"
def TJx9f9b0 : u_T := fun k => match k with
  | _ => ("", "", "", false)
def tyJx9f9b0 : Nat → FieldType := fun k => match k with
  | _ => .int
abbrev wsJx9f9b00 : List Cond := u_ws RJx9f9b0 TJx9f9b0 0
theorem nmJx9f9b0 : ∀ a, a < 0 → ∀ b, b < 0 → a ≠ b → (TJx9f9b0 a).2.1 ≠ (TJx9f9b0 b).2.1 := by decide +kernel
theorem tyJx9f9b0_ok : ∀ k, k < 0 → parseFieldDescriptor (TJx9f9b0 k).2.2.1 = some (tyJx9f9b0 k) := by decide +kernel
def RJ11 : String := "java/lang/Character"
def TJ11 : u_T := fun k => match k with
  | _ => ("", "", "", false)
def tyJ11 : Nat → FieldType := fun k => match k with
  | _ => .int
abbrev wsJ110 : List Cond := u_ws RJ11 TJ11 0
theorem nmJ11 : ∀ a, a < 0 → ∀ b, b < 0 → a ≠ b → (TJ11 a).2.1 ≠ (TJ11 b).2.1 := by decide +kernel
theorem tyJ11_ok : ∀ k, k < 0 → parseFieldDescriptor (TJ11 k).2.2.1 = some (tyJ11 k) := by decide +kernel
abbrev cJ11_isValidCodePoint_9a6ad : ByteArray := prog_20_method_11_code
def yJ11_isValidCodePoint_9a6ad : MethodName := ⟨RJ11, "isValidCodePoint", "(I)Z"⟩
abbrev cJ11_highSurrogate_5068e : ByteArray := prog_20_method_28_code
def yJ11_highSurrogate_5068e : MethodName := ⟨RJ11, "highSurrogate", "(I)C"⟩
abbrev cJ11_lowSurrogate_5068e : ByteArray := prog_20_method_29_code
def yJ11_lowSurrogate_5068e : MethodName := ⟨RJ11, "lowSurrogate", "(I)C"⟩
def RJx8e188 : String := "java/lang/Cloneable"
def TJx8e188 : u_T := fun k => match k with
  | _ => ("", "", "", false)
def tyJx8e188 : Nat → FieldType := fun k => match k with
  | _ => .int
abbrev wsJx8e1880 : List Cond := u_ws RJx8e188 TJx8e188 0
theorem nmJx8e188 : ∀ a, a < 0 → ∀ b, b < 0 → a ≠ b → (TJx8e188 a).2.1 ≠ (TJx8e188 b).2.1 := by decide +kernel
theorem tyJx8e188_ok : ∀ k, k < 0 → parseFieldDescriptor (TJx8e188 k).2.2.1 = some (tyJx8e188 k) := by decide +kernel
def RJxb160c : String := "java/lang/Comparable"
def TJxb160c : u_T := fun k => match k with
  | _ => ("", "", "", false)
def tyJxb160c : Nat → FieldType := fun k => match k with
  | _ => .int
abbrev wsJxb160c0 : List Cond := u_ws RJxb160c TJxb160c 0
theorem nmJxb160c : ∀ a, a < 0 → ∀ b, b < 0 → a ≠ b → (TJxb160c a).2.1 ≠ (TJxb160c b).2.1 := by decide +kernel
theorem tyJxb160c_ok : ∀ k, k < 0 → parseFieldDescriptor (TJxb160c k).2.2.1 = some (tyJxb160c k) := by decide +kernel
def RJ6 : String := "java/lang/Integer"
def TJ6 : u_T := fun k => match k with
  | _ => ("", "", "", false)
def tyJ6 : Nat → FieldType := fun k => match k with
  | _ => .int
abbrev wsJ60 : List Cond := u_ws RJ6 TJ6 0
theorem nmJ6 : ∀ a, a < 0 → ∀ b, b < 0 → a ≠ b → (TJ6 a).2.1 ≠ (TJ6 b).2.1 := by decide +kernel
theorem tyJ6_ok : ∀ k, k < 0 → parseFieldDescriptor (TJ6 k).2.2.1 = some (tyJ6 k) := by decide +kernel
abbrev cJ6_getChars_ba4f3 : ByteArray := prog_27_method_12_code
def yJ6_getChars_ba4f3 : MethodName := ⟨RJ6, "getChars", "(II[B)I"⟩
abbrev cJ6_stringSize_0f7a4 : ByteArray := prog_27_method_13_code
def yJ6_stringSize_0f7a4 : MethodName := ⟨RJ6, "stringSize", "(I)I"⟩
abbrev cJ6_bitCount_0f7a4 : ByteArray := prog_27_method_49_code
def yJ6_bitCount_0f7a4 : MethodName := ⟨RJ6, "bitCount", "(I)I"⟩
def RJ9 : String := "java/lang/Math"
def TJ9 : u_T := fun k => match k with
  | _ => ("", "", "", false)
def tyJ9 : Nat → FieldType := fun k => match k with
  | _ => .int
abbrev wsJ90 : List Cond := u_ws RJ9 TJ9 0
theorem nmJ9 : ∀ a, a < 0 → ∀ b, b < 0 → a ≠ b → (TJ9 a).2.1 ≠ (TJ9 b).2.1 := by decide +kernel
theorem tyJ9_ok : ∀ k, k < 0 → parseFieldDescriptor (TJ9 k).2.2.1 = some (tyJ9 k) := by decide +kernel
abbrev cJ9_abs_0f7a4 : ByteArray := prog_28_method_59_code
def yJ9_abs_0f7a4 : MethodName := ⟨RJ9, "abs", "(I)I"⟩
abbrev cJ9_max_7cf53 : ByteArray := prog_28_method_65_code
def yJ9_max_7cf53 : MethodName := ⟨RJ9, "max", "(II)I"⟩
abbrev cJ9_min_7cf53 : ByteArray := prog_28_method_69_code
def yJ9_min_7cf53 : MethodName := ⟨RJ9, "min", "(II)I"⟩
def RJxd2413 : String := "java/lang/Number"
def TJxd2413 : u_T := fun k => match k with
  | _ => ("", "", "", false)
def tyJxd2413 : Nat → FieldType := fun k => match k with
  | _ => .int
abbrev wsJxd24130 : List Cond := u_ws RJxd2413 TJxd2413 0
theorem nmJxd2413 : ∀ a, a < 0 → ∀ b, b < 0 → a ≠ b → (TJxd2413 a).2.1 ≠ (TJxd2413 b).2.1 := by decide +kernel
theorem tyJxd2413_ok : ∀ k, k < 0 → parseFieldDescriptor (TJxd2413 k).2.2.1 = some (tyJxd2413 k) := by decide +kernel
def RJ0 : String := "java/lang/String"
def TJ0 : u_T := fun k => match k with
  | 0 => ("java/lang/String", "value", "[B", true)
  | _ => ("java/lang/String", "coder", "B", true)
def tyJ0 : Nat → FieldType := fun k => match k with
  | 0 => .array .byte
  | _ => .byte
abbrev wsJ00 : List Cond := u_ws RJ0 TJ0 2
theorem nmJ0 : ∀ a, a < 2 → ∀ b, b < 2 → a ≠ b → (TJ0 a).2.1 ≠ (TJ0 b).2.1 := by decide +kernel
theorem tyJ0_ok : ∀ k, k < 2 → parseFieldDescriptor (TJ0 k).2.2.1 = some (tyJ0 k) := by decide +kernel
abbrev cJ0_length_8abf5 : ByteArray := prog_31_method_54_code
def yJ0_length_8abf5 : MethodName := ⟨RJ0, "length", "()I"⟩
abbrev cJ0_indexOf_0f7a4 : ByteArray := prog_31_method_79_code
def yJ0_indexOf_0f7a4 : MethodName := ⟨RJ0, "indexOf", "(I)I"⟩
abbrev cJ0_indexOf_7cf53 : ByteArray := prog_31_method_80_code
def yJ0_indexOf_7cf53 : MethodName := ⟨RJ0, "indexOf", "(II)I"⟩
abbrev cJ0_coder_7d493 : ByteArray := prog_31_method_152_code
def yJ0_coder_7d493 : MethodName := ⟨RJ0, "coder", "()B"⟩
abbrev cJ0_isLatin1_aae02 : ByteArray := prog_31_method_154_code
def yJ0_isLatin1_aae02 : MethodName := ⟨RJ0, "isLatin1", "()Z"⟩
abbrev cJ0_checkIndex_df160 : ByteArray := prog_31_method_155_code
def yJ0_checkIndex_df160 : MethodName := ⟨RJ0, "checkIndex", "(II)V"⟩
abbrev cJ0_checkBoundsOffCount_cabcc : ByteArray := prog_31_method_157_code
def yJ0_checkBoundsOffCount_cabcc : MethodName := ⟨RJ0, "checkBoundsOffCount", "(III)I"⟩
abbrev cJ0_checkBoundsBeginEnd_23922 : ByteArray := prog_31_method_158_code
def yJ0_checkBoundsBeginEnd_23922 : MethodName := ⟨RJ0, "checkBoundsBeginEnd", "(III)V"⟩
def RJ4 : String := "java/lang/StringBuilder"
def TJ4 : u_T := fun k => match k with
  | 0 => ("java/lang/AbstractStringBuilder", "value", "[B", false)
  | 1 => ("java/lang/AbstractStringBuilder", "coder", "B", false)
  | 2 => ("java/lang/AbstractStringBuilder", "maybeLatin1", "Z", false)
  | _ => ("java/lang/AbstractStringBuilder", "count", "I", false)
def tyJ4 : Nat → FieldType := fun k => match k with
  | 0 => .array .byte
  | 1 => .byte
  | 2 => .boolean
  | _ => .int
abbrev wsJ40 : List Cond := u_ws RJ4 TJ4 4
theorem nmJ4 : ∀ a, a < 4 → ∀ b, b < 4 → a ≠ b → (TJ4 a).2.1 ≠ (TJ4 b).2.1 := by decide +kernel
theorem tyJ4_ok : ∀ k, k < 4 → parseFieldDescriptor (TJ4 k).2.2.1 = some (tyJ4 k) := by decide +kernel
abbrev cJ4_init_da8c8 : ByteArray := prog_32_method_1_code
def yJ4_init_da8c8 : MethodName := ⟨RJ4, "<init>", "()V"⟩
abbrev cJ4_append_cf468 : ByteArray := prog_32_method_14_code
def yJ4_append_cf468 : MethodName := ⟨RJ4, "append", "(C)Ljava/lang/StringBuilder;"⟩
abbrev cJ4_append_bf812 : ByteArray := prog_32_method_15_code
def yJ4_append_bf812 : MethodName := ⟨RJ4, "append", "(I)Ljava/lang/StringBuilder;"⟩
abbrev cJ4_charAt_5068e : ByteArray := prog_32_method_88_code
def yJ4_charAt_5068e : MethodName := ⟨RJ4, "charAt", "(I)C"⟩
abbrev cJ4_length_8abf5 : ByteArray := prog_32_method_93_code
def yJ4_length_8abf5 : MethodName := ⟨RJ4, "length", "()I"⟩
def RJ1 : String := "java/lang/StringLatin1"
def TJ1 : u_T := fun k => match k with
  | _ => ("", "", "", false)
def tyJ1 : Nat → FieldType := fun k => match k with
  | _ => .int
abbrev wsJ10 : List Cond := u_ws RJ1 TJ1 0
theorem nmJ1 : ∀ a, a < 0 → ∀ b, b < 0 → a ≠ b → (TJ1 a).2.1 ≠ (TJ1 b).2.1 := by decide +kernel
theorem tyJ1_ok : ∀ k, k < 0 → parseFieldDescriptor (TJ1 k).2.2.1 = some (tyJ1 k) := by decide +kernel
abbrev cJ1_canEncode_fc78d : ByteArray := prog_33_method_3_code
def yJ1_canEncode_fc78d : MethodName := ⟨RJ1, "canEncode", "(C)Z"⟩
abbrev cJ1_canEncode_9a6ad : ByteArray := prog_33_method_4_code
def yJ1_canEncode_9a6ad : MethodName := ⟨RJ1, "canEncode", "(I)Z"⟩
abbrev cJ1_indexOf_4cfef : ByteArray := prog_33_method_22_code
def yJ1_indexOf_4cfef : MethodName := ⟨RJ1, "indexOf", "([BIII)I"⟩
abbrev cJ1_indexOfChar_4cfef : ByteArray := prog_33_method_23_code
def yJ1_indexOfChar_4cfef : MethodName := ⟨RJ1, "indexOfChar", "([BIII)I"⟩
abbrev cJ1_inflate_0e8fd : ByteArray := prog_33_method_50_code
def yJ1_inflate_0e8fd : MethodName := ⟨RJ1, "inflate", "([BI[BII)V"⟩
def RJ2 : String := "java/lang/StringUTF16"
def TJ2 : u_T := fun k => match k with
  | _ => ("", "", "", false)
def tyJ2 : Nat → FieldType := fun k => match k with
  | _ => .int
abbrev wsJ20 : List Cond := u_ws RJ2 TJ2 0
theorem nmJ2 : ∀ a, a < 0 → ∀ b, b < 0 → a ≠ b → (TJ2 a).2.1 ≠ (TJ2 b).2.1 := by decide +kernel
theorem tyJ2_ok : ∀ k, k < 0 → parseFieldDescriptor (TJ2 k).2.2.1 = some (tyJ2 k) := by decide +kernel
abbrev cJ2_newBytesFor_77867 : ByteArray := prog_34_method_2_code
def yJ2_newBytesFor_77867 : MethodName := ⟨RJ2, "newBytesFor", "(I)[B"⟩
abbrev cJ2_newBytesLength_0f7a4 : ByteArray := prog_34_method_3_code
def yJ2_newBytesLength_0f7a4 : MethodName := ⟨RJ2, "newBytesLength", "(I)I"⟩
abbrev cJ2_putChar_b72d1 : ByteArray := prog_34_method_4_code
def yJ2_putChar_b72d1 : MethodName := ⟨RJ2, "putChar", "([BII)V"⟩
abbrev cJ2_getChar_3b067 : ByteArray := prog_34_method_5_code
def yJ2_getChar_3b067 : MethodName := ⟨RJ2, "getChar", "([BI)C"⟩
abbrev cJ2_length_9d52b : ByteArray := prog_34_method_6_code
def yJ2_length_9d52b : MethodName := ⟨RJ2, "length", "([B)I"⟩
abbrev cJ2_indexOf_4cfef : ByteArray := prog_34_method_40_code
def yJ2_indexOf_4cfef : MethodName := ⟨RJ2, "indexOf", "([BIII)I"⟩
abbrev cJ2_indexOfChar_4cfef : ByteArray := prog_34_method_47_code
def yJ2_indexOfChar_4cfef : MethodName := ⟨RJ2, "indexOfChar", "([BIII)I"⟩
abbrev cJ2_indexOfCharUnsafe_4cfef : ByteArray := prog_34_method_48_code
def yJ2_indexOfCharUnsafe_4cfef : MethodName := ⟨RJ2, "indexOfCharUnsafe", "([BIII)I"⟩
abbrev cJ2_indexOfSupplementary_4cfef : ByteArray := prog_34_method_49_code
def yJ2_indexOfSupplementary_4cfef : MethodName := ⟨RJ2, "indexOfSupplementary", "([BIII)I"⟩
abbrev cJ2_putCharSB_b72d1 : ByteArray := prog_34_method_71_code
def yJ2_putCharSB_b72d1 : MethodName := ⟨RJ2, "putCharSB", "([BII)V"⟩
abbrev cJ2_getChars_46870 : ByteArray := prog_34_method_77_code
def yJ2_getChars_46870 : MethodName := ⟨RJ2, "getChars", "(III[B)I"⟩
abbrev cJ2_inflate_0e8fd : ByteArray := prog_34_method_86_code
def yJ2_inflate_0e8fd : MethodName := ⟨RJ2, "inflate", "([BI[BII)V"⟩
abbrev cJ2_getChars_ba4f3 : ByteArray := prog_34_method_89_code
def yJ2_getChars_ba4f3 : MethodName := ⟨RJ2, "getChars", "(II[B)I"⟩
abbrev cJ2_checkIndex_2214a : ByteArray := prog_34_method_91_code
def yJ2_checkIndex_2214a : MethodName := ⟨RJ2, "checkIndex", "(I[B)V"⟩
abbrev cJ2_checkBoundsBeginEnd_d044e : ByteArray := prog_34_method_93_code
def yJ2_checkBoundsBeginEnd_d044e : MethodName := ⟨RJ2, "checkBoundsBeginEnd", "(II[B)V"⟩
abbrev cJ2_checkBoundsOffCount_d044e : ByteArray := prog_34_method_94_code
def yJ2_checkBoundsOffCount_d044e : MethodName := ⟨RJ2, "checkBoundsOffCount", "(II[B)V"⟩
def RJ10 : String := "java/lang/System"
def TJ10 : u_T := fun k => match k with
  | _ => ("", "", "", false)
def tyJ10 : Nat → FieldType := fun k => match k with
  | _ => .int
abbrev wsJ100 : List Cond := u_ws RJ10 TJ10 0
theorem nmJ10 : ∀ a, a < 0 → ∀ b, b < 0 → a ≠ b → (TJ10 a).2.1 ≠ (TJ10 b).2.1 := by decide +kernel
theorem tyJ10_ok : ∀ k, k < 0 → parseFieldDescriptor (TJ10 k).2.2.1 = some (tyJ10 k) := by decide +kernel
def RJxfd54e : String := "java/lang/constant/Constable"
def TJxfd54e : u_T := fun k => match k with
  | _ => ("", "", "", false)
def tyJxfd54e : Nat → FieldType := fun k => match k with
  | _ => .int
abbrev wsJxfd54e0 : List Cond := u_ws RJxfd54e TJxfd54e 0
theorem nmJxfd54e : ∀ a, a < 0 → ∀ b, b < 0 → a ≠ b → (TJxfd54e a).2.1 ≠ (TJxfd54e b).2.1 := by decide +kernel
theorem tyJxfd54e_ok : ∀ k, k < 0 → parseFieldDescriptor (TJxfd54e k).2.2.1 = some (tyJxfd54e k) := by decide +kernel
def RJx3cf43 : String := "java/lang/constant/ConstantDesc"
def TJx3cf43 : u_T := fun k => match k with
  | _ => ("", "", "", false)
def tyJx3cf43 : Nat → FieldType := fun k => match k with
  | _ => .int
abbrev wsJx3cf430 : List Cond := u_ws RJx3cf43 TJx3cf43 0
theorem nmJx3cf43 : ∀ a, a < 0 → ∀ b, b < 0 → a ≠ b → (TJx3cf43 a).2.1 ≠ (TJx3cf43 b).2.1 := by decide +kernel
theorem tyJx3cf43_ok : ∀ k, k < 0 → parseFieldDescriptor (TJx3cf43 k).2.2.1 = some (tyJx3cf43 k) := by decide +kernel
def RJ7 : String := "java/util/Arrays"
def TJ7 : u_T := fun k => match k with
  | _ => ("", "", "", false)
def tyJ7 : Nat → FieldType := fun k => match k with
  | _ => .int
abbrev wsJ70 : List Cond := u_ws RJ7 TJ7 0
theorem nmJ7 : ∀ a, a < 0 → ∀ b, b < 0 → a ≠ b → (TJ7 a).2.1 ≠ (TJ7 b).2.1 := by decide +kernel
theorem tyJ7_ok : ∀ k, k < 0 → parseFieldDescriptor (TJ7 k).2.2.1 = some (tyJ7 k) := by decide +kernel
abbrev cJ7_copyOf_9075b : ByteArray := prog_40_method_121_code
def yJ7_copyOf_9075b : MethodName := ⟨RJ7, "copyOf", "([BI)[B"⟩
def RJ8 : String := "jdk/internal/util/ArraysSupport"
def TJ8 : u_T := fun k => match k with
  | _ => ("", "", "", false)
def tyJ8 : Nat → FieldType := fun k => match k with
  | _ => .int
abbrev wsJ80 : List Cond := u_ws RJ8 TJ8 0
theorem nmJ8 : ∀ a, a < 0 → ∀ b, b < 0 → a ≠ b → (TJ8 a).2.1 ≠ (TJ8 b).2.1 := by decide +kernel
theorem tyJ8_ok : ∀ k, k < 0 → parseFieldDescriptor (TJ8 k).2.2.1 = some (tyJ8 k) := by decide +kernel
abbrev cJ8_newLength_cabcc : ByteArray := prog_42_method_27_code
def yJ8_newLength_cabcc : MethodName := ⟨RJ8, "newLength", "(III)I"⟩
abbrev cJ8_hugeLength_7cf53 : ByteArray := prog_42_method_28_code
def yJ8_hugeLength_7cf53 : MethodName := ⟨RJ8, "hugeLength", "(II)I"⟩
def RJ3 : String := "jdk/internal/util/Preconditions"
def TJ3 : u_T := fun k => match k with
  | _ => ("", "", "", false)
def tyJ3 : Nat → FieldType := fun k => match k with
  | _ => .int
abbrev wsJ30 : List Cond := u_ws RJ3 TJ3 0
theorem nmJ3 : ∀ a, a < 0 → ∀ b, b < 0 → a ≠ b → (TJ3 a).2.1 ≠ (TJ3 b).2.1 := by decide +kernel
theorem tyJ3_ok : ∀ k, k < 0 → parseFieldDescriptor (TJ3 k).2.2.1 = some (tyJ3 k) := by decide +kernel
abbrev cJ3_checkIndex_8e157 : ByteArray := prog_43_method_11_code
def yJ3_checkIndex_8e157 : MethodName := ⟨RJ3, "checkIndex", "(IILjava/util/function/BiFunction;)I"⟩
abbrev cJ3_checkFromToIndex_8c36e : ByteArray := prog_43_method_12_code
def yJ3_checkFromToIndex_8c36e : MethodName := ⟨RJ3, "checkFromToIndex", "(IIILjava/util/function/BiFunction;)I"⟩
abbrev cJ3_checkFromIndexSize_8c36e : ByteArray := prog_43_method_13_code
def yJ3_checkFromIndexSize_8c36e : MethodName := ⟨RJ3, "checkFromIndexSize", "(IIILjava/util/function/BiFunction;)I"⟩
def RL : String := "LaunchRangeLaw"
abbrev cL_setTank : ByteArray := method_3_code
def yL_setTank : MethodName := ⟨RL, "setTank", "(LLaunchRange;IIII[J)I"⟩
abbrev cL_setValve : ByteArray := method_4_code
def yL_setValve : MethodName := ⟨RL, "setValve", "(LLaunchRange;IZ[J)I"⟩
abbrev cL_drain : ByteArray := method_5_code
def yL_drain : MethodName := ⟨RL, "drain", "(LLaunchRange;II[J)I"⟩
abbrev cL_inTank : ByteArray := method_6_code
def yL_inTank : MethodName := ⟨RL, "inTank", "(LLaunchRange;I[J)I"⟩
abbrev cL_addStep : ByteArray := method_7_code
def yL_addStep : MethodName := ⟨RL, "addStep", "(LLaunchRange;II[J)I"⟩
abbrev cL_setAfter : ByteArray := method_8_code
def yL_setAfter : MethodName := ⟨RL, "setAfter", "(LLaunchRange;II[J)I"⟩
abbrev cL_stepState : ByteArray := method_9_code
def yL_stepState : MethodName := ⟨RL, "stepState", "(LLaunchRange;I[J)I"⟩
abbrev cL_addMark : ByteArray := method_10_code
def yL_addMark : MethodName := ⟨RL, "addMark", "(LLaunchRange;III[J)I"⟩
abbrev cL_sense : ByteArray := method_11_code
def yL_sense : MethodName := ⟨RL, "sense", "(LLaunchRange;II[J)I"⟩
abbrev cL_inhibit : ByteArray := method_12_code
def yL_inhibit : MethodName := ⟨RL, "inhibit", "(LLaunchRange;IZ[J)I"⟩
abbrev cL_setWind : ByteArray := method_13_code
def yL_setWind : MethodName := ⟨RL, "setWind", "(LLaunchRange;I[J)I"⟩
abbrev cL_strike : ByteArray := method_14_code
def yL_strike : MethodName := ⟨RL, "strike", "(LLaunchRange;I[J)I"⟩
abbrev cL_boat : ByteArray := method_15_code
def yL_boat : MethodName := ⟨RL, "boat", "(LLaunchRange;III[J)I"⟩
abbrev cL_addRule : ByteArray := method_16_code
def yL_addRule : MethodName := ⟨RL, "addRule", "(LLaunchRange;CIIII[J)I"⟩
abbrev cL_mayWaive : ByteArray := method_17_code
def yL_mayWaive : MethodName := ⟨RL, "mayWaive", "(LLaunchRange;II[J)I"⟩
abbrev cL_waive : ByteArray := method_18_code
def yL_waive : MethodName := ⟨RL, "waive", "(LLaunchRange;III[J)I"⟩
abbrev cL_go : ByteArray := method_19_code
def yL_go : MethodName := ⟨RL, "go", "(LLaunchRange;IZ[J)I"⟩
abbrev cL_value : ByteArray := method_20_code
def yL_value : MethodName := ⟨RL, "value", "(LLaunchRange;I[J)I"⟩
abbrev cL_holdsFor : ByteArray := method_21_code
def yL_holdsFor : MethodName := ⟨RL, "holdsFor", "(LLaunchRange;I[J)I"⟩
abbrev cL_isMet : ByteArray := method_22_code
def yL_isMet : MethodName := ⟨RL, "isMet", "(LLaunchRange;I[J)I"⟩
abbrev cL_begin : ByteArray := method_23_code
def yL_begin : MethodName := ⟨RL, "begin", "(LLaunchRange;III[J)I"⟩
abbrev cL_recycle : ByteArray := method_24_code
def yL_recycle : MethodName := ⟨RL, "recycle", "(LLaunchRange;I[J)I"⟩
abbrev cL_pass : ByteArray := method_25_code
def yL_pass : MethodName := ⟨RL, "pass", "(LLaunchRange;I[J)I"⟩
abbrev cL_track : ByteArray := method_26_code
def yL_track : MethodName := ⟨RL, "track", "(LLaunchRange;II[J)I"⟩
abbrev cL_count : ByteArray := method_27_code
def yL_count : MethodName := ⟨RL, "count", "(LLaunchRange;[J)I"⟩
abbrev cL_holds : ByteArray := method_28_code
def yL_holds : MethodName := ⟨RL, "holds", "(LLaunchRange;[J)I"⟩
abbrev cL_cause : ByteArray := method_29_code
def yL_cause : MethodName := ⟨RL, "cause", "(LLaunchRange;[J)I"⟩
abbrev cL_causeRule : ByteArray := method_30_code
def yL_causeRule : MethodName := ⟨RL, "causeRule", "(LLaunchRange;[J)I"⟩
abbrev cL_logAt : ByteArray := method_31_code
def yL_logAt : MethodName := ⟨RL, "logAt", "(LLaunchRange;I[J)I"⟩
abbrev cL_metShare : ByteArray := method_32_code
def yL_metShare : MethodName := ⟨RL, "metShare", "(LLaunchRange;[D)I"⟩
abbrev cL_meanFill : ByteArray := method_33_code
def yL_meanFill : MethodName := ⟨RL, "meanFill", "(LLaunchRange;[D)I"⟩
abbrev cL_law : ByteArray := code
def yL_law : MethodName := ⟨RL, "law", "([I)Z"⟩
theorem dX0_init_0 : decode cX0_init 0 = .ok (.aload_n 0, 1) := by decide +kernel
theorem dX0_init_1 : decode cX0_init 1 = .ok (.invokespecial 3, 3) := by decide +kernel
theorem dX0_init_4 : decode cX0_init 4 = .ok (.aload_n 0, 1) := by decide +kernel
theorem dX0_init_5 : decode cX0_init 5 = .ok (.bipush 8, 2) := by decide +kernel
theorem dX0_init_7 : decode cX0_init 7 = .ok (.newarray .int, 2) := by decide +kernel
theorem dX0_init_9 : decode cX0_init 9 = .ok (.putfield 9, 3) := by decide +kernel
theorem dX0_init_12 : decode cX0_init 12 = .ok (.return_, 1) := by decide +kernel
theorem dX0_tell_0 : decode cX0_tell 0 = .ok (.aload_n 0, 1) := by decide +kernel
theorem dX0_tell_1 : decode cX0_tell 1 = .ok (.getfield 9, 3) := by decide +kernel
theorem dX0_tell_4 : decode cX0_tell 4 = .ok (.iload_n 1, 1) := by decide +kernel
theorem dX0_tell_5 : decode cX0_tell 5 = .ok (.iload_n 2, 1) := by decide +kernel
theorem dX0_tell_6 : decode cX0_tell 6 = .ok (.iconst 0, 1) := by decide +kernel
theorem dX0_tell_7 : decode cX0_tell 7 = .ok (.bipush 100, 2) := by decide +kernel
theorem dX0_tell_9 : decode cX0_tell 9 = .ok (.bipush 10, 2) := by decide +kernel
theorem dX0_tell_11 : decode cX0_tell 11 = .ok (.iload_n 3, 1) := by decide +kernel
theorem dX0_tell_12 : decode cX0_tell 12 = .ok (.imul, 1) := by decide +kernel
theorem dX0_tell_13 : decode cX0_tell 13 = .ok (.isub, 1) := by decide +kernel
theorem dX0_tell_14 : decode cX0_tell 14 = .ok (.invokestatic 15, 3) := by decide +kernel
theorem dX0_tell_17 : decode cX0_tell 17 = .ok (.imul, 1) := by decide +kernel
theorem dX0_tell_18 : decode cX0_tell 18 = .ok (.iastore, 1) := by decide +kernel
theorem dX0_tell_19 : decode cX0_tell 19 = .ok (.return_, 1) := by decide +kernel
theorem dX0_sumOfRisks_0 : decode cX0_sumOfRisks 0 = .ok (.iconst 0, 1) := by decide +kernel
theorem dX0_sumOfRisks_1 : decode cX0_sumOfRisks 1 = .ok (.istore_n 1, 1) := by decide +kernel
theorem dX0_sumOfRisks_2 : decode cX0_sumOfRisks 2 = .ok (.iconst 0, 1) := by decide +kernel
theorem dX0_sumOfRisks_3 : decode cX0_sumOfRisks 3 = .ok (.istore_n 2, 1) := by decide +kernel
theorem dX0_sumOfRisks_4 : decode cX0_sumOfRisks 4 = .ok (.iload_n 2, 1) := by decide +kernel
theorem dX0_sumOfRisks_5 : decode cX0_sumOfRisks 5 = .ok (.bipush 8, 2) := by decide +kernel
theorem dX0_sumOfRisks_7 : decode cX0_sumOfRisks 7 = .ok (.if_icmp .ge 18, 3) := by decide +kernel
theorem dX0_sumOfRisks_10 : decode cX0_sumOfRisks 10 = .ok (.iload_n 1, 1) := by decide +kernel
theorem dX0_sumOfRisks_11 : decode cX0_sumOfRisks 11 = .ok (.aload_n 0, 1) := by decide +kernel
theorem dX0_sumOfRisks_12 : decode cX0_sumOfRisks 12 = .ok (.getfield 9, 3) := by decide +kernel
theorem dX0_sumOfRisks_15 : decode cX0_sumOfRisks 15 = .ok (.iload_n 2, 1) := by decide +kernel
theorem dX0_sumOfRisks_16 : decode cX0_sumOfRisks 16 = .ok (.iaload, 1) := by decide +kernel
theorem dX0_sumOfRisks_17 : decode cX0_sumOfRisks 17 = .ok (.iadd, 1) := by decide +kernel
theorem dX0_sumOfRisks_18 : decode cX0_sumOfRisks 18 = .ok (.istore_n 1, 1) := by decide +kernel
theorem dX0_sumOfRisks_19 : decode cX0_sumOfRisks 19 = .ok (.iinc 2 1, 3) := by decide +kernel
theorem dX0_sumOfRisks_22 : decode cX0_sumOfRisks 22 = .ok (.goto (-18), 3) := by decide +kernel
theorem dX0_sumOfRisks_25 : decode cX0_sumOfRisks 25 = .ok (.iload_n 1, 1) := by decide +kernel
theorem dX0_sumOfRisks_26 : decode cX0_sumOfRisks 26 = .ok (.ireturn, 1) := by decide +kernel
theorem dX1_init_0 : decode cX1_init 0 = .ok (.aload_n 0, 1) := by decide +kernel
theorem dX1_init_1 : decode cX1_init 1 = .ok (.invokespecial 3, 3) := by decide +kernel
theorem dX1_init_4 : decode cX1_init 4 = .ok (.aload_n 0, 1) := by decide +kernel
theorem dX1_init_5 : decode cX1_init 5 = .ok (.bipush 45, 2) := by decide +kernel
theorem dX1_init_7 : decode cX1_init 7 = .ok (.putfield 9, 3) := by decide +kernel
theorem dX1_init_10 : decode cX1_init 10 = .ok (.aload_n 0, 1) := by decide +kernel
theorem dX1_init_11 : decode cX1_init 11 = .ok (.iconst (-1), 1) := by decide +kernel
theorem dX1_init_12 : decode cX1_init 12 = .ok (.putfield 15, 3) := by decide +kernel
theorem dX1_init_15 : decode cX1_init 15 = .ok (.aload_n 0, 1) := by decide +kernel
theorem dX1_init_16 : decode cX1_init 16 = .ok (.bipush 45, 2) := by decide +kernel
theorem dX1_init_18 : decode cX1_init 18 = .ok (.putfield 19, 3) := by decide +kernel
theorem dX1_init_21 : decode cX1_init 21 = .ok (.aload_n 0, 1) := by decide +kernel
theorem dX1_init_22 : decode cX1_init 22 = .ok (.iconst (-1), 1) := by decide +kernel
theorem dX1_init_23 : decode cX1_init 23 = .ok (.putfield 22, 3) := by decide +kernel
theorem dX1_init_26 : decode cX1_init 26 = .ok (.return_, 1) := by decide +kernel
theorem dX1_start_0 : decode cX1_start 0 = .ok (.aload_n 0, 1) := by decide +kernel
theorem dX1_start_1 : decode cX1_start 1 = .ok (.iload_n 1, 1) := by decide +kernel
theorem dX1_start_2 : decode cX1_start 2 = .ok (.putfield 25, 3) := by decide +kernel
theorem dX1_start_5 : decode cX1_start 5 = .ok (.aload_n 0, 1) := by decide +kernel
theorem dX1_start_6 : decode cX1_start 6 = .ok (.iload_n 2, 1) := by decide +kernel
theorem dX1_start_7 : decode cX1_start 7 = .ok (.putfield 28, 3) := by decide +kernel
theorem dX1_start_10 : decode cX1_start 10 = .ok (.aload_n 0, 1) := by decide +kernel
theorem dX1_start_11 : decode cX1_start 11 = .ok (.iload_n 3, 1) := by decide +kernel
theorem dX1_start_12 : decode cX1_start 12 = .ok (.putfield 31, 3) := by decide +kernel
theorem dX1_start_15 : decode cX1_start 15 = .ok (.aload_n 0, 1) := by decide +kernel
theorem dX1_start_16 : decode cX1_start 16 = .ok (.iconst 0, 1) := by decide +kernel
theorem dX1_start_17 : decode cX1_start 17 = .ok (.putfield 34, 3) := by decide +kernel
theorem dX1_start_20 : decode cX1_start 20 = .ok (.aload_n 0, 1) := by decide +kernel
theorem dX1_start_21 : decode cX1_start 21 = .ok (.iconst 0, 1) := by decide +kernel
theorem dX1_start_22 : decode cX1_start 22 = .ok (.putfield 37, 3) := by decide +kernel
theorem dX1_start_25 : decode cX1_start 25 = .ok (.aload_n 0, 1) := by decide +kernel
theorem dX1_start_26 : decode cX1_start 26 = .ok (.bipush 45, 2) := by decide +kernel
theorem dX1_start_28 : decode cX1_start 28 = .ok (.putfield 19, 3) := by decide +kernel
theorem dX1_start_31 : decode cX1_start 31 = .ok (.aload_n 0, 1) := by decide +kernel
theorem dX1_start_32 : decode cX1_start 32 = .ok (.iconst (-1), 1) := by decide +kernel
theorem dX1_start_33 : decode cX1_start 33 = .ok (.putfield 22, 3) := by decide +kernel
theorem dX1_start_36 : decode cX1_start 36 = .ok (.return_, 1) := by decide +kernel
theorem dX1_setBack_0 : decode cX1_setBack 0 = .ok (.aload_n 0, 1) := by decide +kernel
theorem dX1_setBack_1 : decode cX1_setBack 1 = .ok (.iload_n 1, 1) := by decide +kernel
theorem dX1_setBack_2 : decode cX1_setBack 2 = .ok (.putfield 25, 3) := by decide +kernel
theorem dX1_setBack_5 : decode cX1_setBack 5 = .ok (.aload_n 0, 1) := by decide +kernel
theorem dX1_setBack_6 : decode cX1_setBack 6 = .ok (.iconst 0, 1) := by decide +kernel
theorem dX1_setBack_7 : decode cX1_setBack 7 = .ok (.putfield 37, 3) := by decide +kernel
theorem dX1_setBack_10 : decode cX1_setBack 10 = .ok (.return_, 1) := by decide +kernel
theorem dX1_stay_0 : decode cX1_stay 0 = .ok (.aload_n 0, 1) := by decide +kernel
theorem dX1_stay_1 : decode cX1_stay 1 = .ok (.iload_n 1, 1) := by decide +kernel
theorem dX1_stay_2 : decode cX1_stay 2 = .ok (.iload_n 2, 1) := by decide +kernel
theorem dX1_stay_3 : decode cX1_stay 3 = .ok (.invokevirtual 40, 3) := by decide +kernel
theorem dX1_stay_6 : decode cX1_stay 6 = .ok (.aload_n 0, 1) := by decide +kernel
theorem dX1_stay_7 : decode cX1_stay 7 = .ok (.getfield 19, 3) := by decide +kernel
theorem dX1_stay_10 : decode cX1_stay 10 = .ok (.bipush 45, 2) := by decide +kernel
theorem dX1_stay_12 : decode cX1_stay 12 = .ok (.if_icmp .ne 13, 3) := by decide +kernel
theorem dX1_stay_15 : decode cX1_stay 15 = .ok (.aload_n 0, 1) := by decide +kernel
theorem dX1_stay_16 : decode cX1_stay 16 = .ok (.iload_n 1, 1) := by decide +kernel
theorem dX1_stay_17 : decode cX1_stay 17 = .ok (.putfield 19, 3) := by decide +kernel
theorem dX1_stay_20 : decode cX1_stay 20 = .ok (.aload_n 0, 1) := by decide +kernel
theorem dX1_stay_21 : decode cX1_stay 21 = .ok (.iload_n 2, 1) := by decide +kernel
theorem dX1_stay_22 : decode cX1_stay 22 = .ok (.putfield 22, 3) := by decide +kernel
theorem dX1_stay_25 : decode cX1_stay 25 = .ok (.aload_n 0, 1) := by decide +kernel
theorem dX1_stay_26 : decode cX1_stay 26 = .ok (.dup, 1) := by decide +kernel
theorem dX1_stay_27 : decode cX1_stay 27 = .ok (.getfield 34, 3) := by decide +kernel
theorem dX1_stay_30 : decode cX1_stay 30 = .ok (.iconst 1, 1) := by decide +kernel
theorem dX1_stay_31 : decode cX1_stay 31 = .ok (.iadd, 1) := by decide +kernel
theorem dX1_stay_32 : decode cX1_stay 32 = .ok (.putfield 34, 3) := by decide +kernel
theorem dX1_stay_35 : decode cX1_stay 35 = .ok (.aload_n 0, 1) := by decide +kernel
theorem dX1_stay_36 : decode cX1_stay 36 = .ok (.dup, 1) := by decide +kernel
theorem dX1_stay_37 : decode cX1_stay 37 = .ok (.getfield 37, 3) := by decide +kernel
theorem dX1_stay_40 : decode cX1_stay 40 = .ok (.iconst 1, 1) := by decide +kernel
theorem dX1_stay_41 : decode cX1_stay 41 = .ok (.iadd, 1) := by decide +kernel
theorem dX1_stay_42 : decode cX1_stay 42 = .ok (.putfield 37, 3) := by decide +kernel
theorem dX1_stay_45 : decode cX1_stay 45 = .ok (.return_, 1) := by decide +kernel
theorem dX1_advance_0 : decode cX1_advance 0 = .ok (.aload_n 0, 1) := by decide +kernel
theorem dX1_advance_1 : decode cX1_advance 1 = .ok (.dup, 1) := by decide +kernel
theorem dX1_advance_2 : decode cX1_advance 2 = .ok (.getfield 25, 3) := by decide +kernel
theorem dX1_advance_5 : decode cX1_advance 5 = .ok (.iconst 1, 1) := by decide +kernel
theorem dX1_advance_6 : decode cX1_advance 6 = .ok (.iadd, 1) := by decide +kernel
theorem dX1_advance_7 : decode cX1_advance 7 = .ok (.putfield 25, 3) := by decide +kernel
theorem dX1_advance_10 : decode cX1_advance 10 = .ok (.aload_n 0, 1) := by decide +kernel
theorem dX1_advance_11 : decode cX1_advance 11 = .ok (.iconst 0, 1) := by decide +kernel
theorem dX1_advance_12 : decode cX1_advance 12 = .ok (.putfield 37, 3) := by decide +kernel
theorem dX1_advance_15 : decode cX1_advance 15 = .ok (.return_, 1) := by decide +kernel
theorem dX1_blame_0 : decode cX1_blame 0 = .ok (.aload_n 0, 1) := by decide +kernel
theorem dX1_blame_1 : decode cX1_blame 1 = .ok (.iload_n 1, 1) := by decide +kernel
theorem dX1_blame_2 : decode cX1_blame 2 = .ok (.putfield 9, 3) := by decide +kernel
theorem dX1_blame_5 : decode cX1_blame 5 = .ok (.aload_n 0, 1) := by decide +kernel
theorem dX1_blame_6 : decode cX1_blame 6 = .ok (.iload_n 2, 1) := by decide +kernel
theorem dX1_blame_7 : decode cX1_blame 7 = .ok (.putfield 15, 3) := by decide +kernel
theorem dX1_blame_10 : decode cX1_blame 10 = .ok (.return_, 1) := by decide +kernel
theorem dX1_blameFirstHold_0 : decode cX1_blameFirstHold 0 = .ok (.aload_n 0, 1) := by decide +kernel
theorem dX1_blameFirstHold_1 : decode cX1_blameFirstHold 1 = .ok (.aload_n 0, 1) := by decide +kernel
theorem dX1_blameFirstHold_2 : decode cX1_blameFirstHold 2 = .ok (.getfield 19, 3) := by decide +kernel
theorem dX1_blameFirstHold_5 : decode cX1_blameFirstHold 5 = .ok (.bipush 45, 2) := by decide +kernel
theorem dX1_blameFirstHold_7 : decode cX1_blameFirstHold 7 = .ok (.if_icmp .ne 8, 3) := by decide +kernel
theorem dX1_blameFirstHold_10 : decode cX1_blameFirstHold 10 = .ok (.bipush 111, 2) := by decide +kernel
theorem dX1_blameFirstHold_12 : decode cX1_blameFirstHold 12 = .ok (.goto 7, 3) := by decide +kernel
theorem dX1_blameFirstHold_15 : decode cX1_blameFirstHold 15 = .ok (.aload_n 0, 1) := by decide +kernel
theorem dX1_blameFirstHold_16 : decode cX1_blameFirstHold 16 = .ok (.getfield 19, 3) := by decide +kernel
theorem dX1_blameFirstHold_19 : decode cX1_blameFirstHold 19 = .ok (.aload_n 0, 1) := by decide +kernel
theorem dX1_blameFirstHold_20 : decode cX1_blameFirstHold 20 = .ok (.getfield 22, 3) := by decide +kernel
theorem dX1_blameFirstHold_23 : decode cX1_blameFirstHold 23 = .ok (.invokevirtual 40, 3) := by decide +kernel
theorem dX1_blameFirstHold_26 : decode cX1_blameFirstHold 26 = .ok (.return_, 1) := by decide +kernel
theorem dX1_isInWindow_0 : decode cX1_isInWindow 0 = .ok (.iload_n 1, 1) := by decide +kernel
theorem dX1_isInWindow_1 : decode cX1_isInWindow 1 = .ok (.aload_n 0, 1) := by decide +kernel
theorem dX1_isInWindow_2 : decode cX1_isInWindow 2 = .ok (.getfield 28, 3) := by decide +kernel
theorem dX1_isInWindow_5 : decode cX1_isInWindow 5 = .ok (.aload_n 0, 1) := by decide +kernel
theorem dX1_isInWindow_6 : decode cX1_isInWindow 6 = .ok (.getfield 31, 3) := by decide +kernel
theorem dX1_isInWindow_9 : decode cX1_isInWindow 9 = .ok (.invokestatic 44, 3) := by decide +kernel
theorem dX1_isInWindow_12 : decode cX1_isInWindow 12 = .ok (.ireturn, 1) := by decide +kernel
theorem dX2_init_0 : decode cX2_init 0 = .ok (.aload_n 0, 1) := by decide +kernel
theorem dX2_init_1 : decode cX2_init 1 = .ok (.invokespecial 3, 3) := by decide +kernel
theorem dX2_init_4 : decode cX2_init 4 = .ok (.aload_n 0, 1) := by decide +kernel
theorem dX2_init_5 : decode cX2_init 5 = .ok (.iconst 2, 1) := by decide +kernel
theorem dX2_init_6 : decode cX2_init 6 = .ok (.newarray .int, 2) := by decide +kernel
theorem dX2_init_8 : decode cX2_init 8 = .ok (.putfield 9, 3) := by decide +kernel
theorem dX2_init_11 : decode cX2_init 11 = .ok (.return_, 1) := by decide +kernel
theorem dX2_leave_0 : decode cX2_leave 0 = .ok (.aload_n 0, 1) := by decide +kernel
theorem dX2_leave_1 : decode cX2_leave 1 = .ok (.iload_n 1, 1) := by decide +kernel
theorem dX2_leave_2 : decode cX2_leave 2 = .ok (.putfield 15, 3) := by decide +kernel
theorem dX2_leave_5 : decode cX2_leave 5 = .ok (.aload_n 0, 1) := by decide +kernel
theorem dX2_leave_6 : decode cX2_leave 6 = .ok (.iload_n 2, 1) := by decide +kernel
theorem dX2_leave_7 : decode cX2_leave 7 = .ok (.putfield 19, 3) := by decide +kernel
theorem dX2_leave_10 : decode cX2_leave 10 = .ok (.return_, 1) := by decide +kernel
theorem dX2_compareRadars_0 : decode cX2_compareRadars 0 = .ok (.aload_n 0, 1) := by decide +kernel
theorem dX2_compareRadars_1 : decode cX2_compareRadars 1 = .ok (.aload_n 0, 1) := by decide +kernel
theorem dX2_compareRadars_2 : decode cX2_compareRadars 2 = .ok (.getfield 9, 3) := by decide +kernel
theorem dX2_compareRadars_5 : decode cX2_compareRadars 5 = .ok (.iconst 0, 1) := by decide +kernel
theorem dX2_compareRadars_6 : decode cX2_compareRadars 6 = .ok (.iaload, 1) := by decide +kernel
theorem dX2_compareRadars_7 : decode cX2_compareRadars 7 = .ok (.aload_n 0, 1) := by decide +kernel
theorem dX2_compareRadars_8 : decode cX2_compareRadars 8 = .ok (.getfield 9, 3) := by decide +kernel
theorem dX2_compareRadars_11 : decode cX2_compareRadars 11 = .ok (.iconst 1, 1) := by decide +kernel
theorem dX2_compareRadars_12 : decode cX2_compareRadars 12 = .ok (.iaload, 1) := by decide +kernel
theorem dX2_compareRadars_13 : decode cX2_compareRadars 13 = .ok (.isub, 1) := by decide +kernel
theorem dX2_compareRadars_14 : decode cX2_compareRadars 14 = .ok (.invokestatic 23, 3) := by decide +kernel
theorem dX2_compareRadars_17 : decode cX2_compareRadars 17 = .ok (.bipush 20, 2) := by decide +kernel
theorem dX2_compareRadars_19 : decode cX2_compareRadars 19 = .ok (.if_icmp .le 12, 3) := by decide +kernel
theorem dX2_compareRadars_22 : decode cX2_compareRadars 22 = .ok (.aload_n 0, 1) := by decide +kernel
theorem dX2_compareRadars_23 : decode cX2_compareRadars 23 = .ok (.getfield 29, 3) := by decide +kernel
theorem dX2_compareRadars_26 : decode cX2_compareRadars 26 = .ok (.iconst 1, 1) := by decide +kernel
theorem dX2_compareRadars_27 : decode cX2_compareRadars 27 = .ok (.iadd, 1) := by decide +kernel
theorem dX2_compareRadars_28 : decode cX2_compareRadars 28 = .ok (.goto 4, 3) := by decide +kernel
theorem dX2_compareRadars_31 : decode cX2_compareRadars 31 = .ok (.iconst 0, 1) := by decide +kernel
theorem dX2_compareRadars_32 : decode cX2_compareRadars 32 = .ok (.putfield 29, 3) := by decide +kernel
theorem dX2_compareRadars_35 : decode cX2_compareRadars 35 = .ok (.return_, 1) := by decide +kernel
theorem dX2_isFarOff_0 : decode cX2_isFarOff 0 = .ok (.aload_n 0, 1) := by decide +kernel
theorem dX2_isFarOff_1 : decode cX2_isFarOff 1 = .ok (.getfield 9, 3) := by decide +kernel
theorem dX2_isFarOff_4 : decode cX2_isFarOff 4 = .ok (.iconst 0, 1) := by decide +kernel
theorem dX2_isFarOff_5 : decode cX2_isFarOff 5 = .ok (.iaload, 1) := by decide +kernel
theorem dX2_isFarOff_6 : decode cX2_isFarOff 6 = .ok (.invokestatic 23, 3) := by decide +kernel
theorem dX2_isFarOff_9 : decode cX2_isFarOff 9 = .ok (.bipush 100, 2) := by decide +kernel
theorem dX2_isFarOff_11 : decode cX2_isFarOff 11 = .ok (.if_icmp .le 21, 3) := by decide +kernel
theorem dX2_isFarOff_14 : decode cX2_isFarOff 14 = .ok (.aload_n 0, 1) := by decide +kernel
theorem dX2_isFarOff_15 : decode cX2_isFarOff 15 = .ok (.getfield 9, 3) := by decide +kernel
theorem dX2_isFarOff_18 : decode cX2_isFarOff 18 = .ok (.iconst 1, 1) := by decide +kernel
theorem dX2_isFarOff_19 : decode cX2_isFarOff 19 = .ok (.iaload, 1) := by decide +kernel
theorem dX2_isFarOff_20 : decode cX2_isFarOff 20 = .ok (.invokestatic 23, 3) := by decide +kernel
theorem dX2_isFarOff_23 : decode cX2_isFarOff 23 = .ok (.bipush 100, 2) := by decide +kernel
theorem dX2_isFarOff_25 : decode cX2_isFarOff 25 = .ok (.if_icmp .le 7, 3) := by decide +kernel
theorem dX2_isFarOff_28 : decode cX2_isFarOff 28 = .ok (.iconst 1, 1) := by decide +kernel
theorem dX2_isFarOff_29 : decode cX2_isFarOff 29 = .ok (.goto 4, 3) := by decide +kernel
theorem dX2_isFarOff_32 : decode cX2_isFarOff 32 = .ok (.iconst 0, 1) := by decide +kernel
theorem dX2_isFarOff_33 : decode cX2_isFarOff 33 = .ok (.ireturn, 1) := by decide +kernel
theorem dX3_init_0 : decode cX3_init 0 = .ok (.aload_n 0, 1) := by decide +kernel
theorem dX3_init_1 : decode cX3_init 1 = .ok (.invokespecial 3, 3) := by decide +kernel
theorem dX3_init_4 : decode cX3_init 4 = .ok (.aload_n 0, 1) := by decide +kernel
theorem dX3_init_5 : decode cX3_init 5 = .ok (.sipush 600, 3) := by decide +kernel
theorem dX3_init_8 : decode cX3_init 8 = .ok (.newarray .int, 2) := by decide +kernel
theorem dX3_init_10 : decode cX3_init 10 = .ok (.putfield 9, 3) := by decide +kernel
theorem dX3_init_13 : decode cX3_init 13 = .ok (.return_, 1) := by decide +kernel
theorem dX3_tell_0 : decode cX3_tell 0 = .ok (.aload_n 0, 1) := by decide +kernel
theorem dX3_tell_1 : decode cX3_tell 1 = .ok (.getfield 9, 3) := by decide +kernel
theorem dX3_tell_4 : decode cX3_tell 4 = .ok (.iload_n 1, 1) := by decide +kernel
theorem dX3_tell_5 : decode cX3_tell 5 = .ok (.sipush 600, 3) := by decide +kernel
theorem dX3_tell_8 : decode cX3_tell 8 = .ok (.irem, 1) := by decide +kernel
theorem dX3_tell_9 : decode cX3_tell 9 = .ok (.dup2, 1) := by decide +kernel
theorem dX3_tell_10 : decode cX3_tell 10 = .ok (.iaload, 1) := by decide +kernel
theorem dX3_tell_11 : decode cX3_tell 11 = .ok (.iconst 1, 1) := by decide +kernel
theorem dX3_tell_12 : decode cX3_tell 12 = .ok (.iadd, 1) := by decide +kernel
theorem dX3_tell_13 : decode cX3_tell 13 = .ok (.iastore, 1) := by decide +kernel
theorem dX3_tell_14 : decode cX3_tell 14 = .ok (.aload_n 0, 1) := by decide +kernel
theorem dX3_tell_15 : decode cX3_tell 15 = .ok (.dup, 1) := by decide +kernel
theorem dX3_tell_16 : decode cX3_tell 16 = .ok (.getfield 15, 3) := by decide +kernel
theorem dX3_tell_19 : decode cX3_tell 19 = .ok (.iconst 1, 1) := by decide +kernel
theorem dX3_tell_20 : decode cX3_tell 20 = .ok (.iadd, 1) := by decide +kernel
theorem dX3_tell_21 : decode cX3_tell 21 = .ok (.putfield 15, 3) := by decide +kernel
theorem dX3_tell_24 : decode cX3_tell 24 = .ok (.return_, 1) := by decide +kernel
theorem dX3_forgetOld_0 : decode cX3_forgetOld 0 = .ok (.aload_n 0, 1) := by decide +kernel
theorem dX3_forgetOld_1 : decode cX3_forgetOld 1 = .ok (.dup, 1) := by decide +kernel
theorem dX3_forgetOld_2 : decode cX3_forgetOld 2 = .ok (.getfield 15, 3) := by decide +kernel
theorem dX3_forgetOld_5 : decode cX3_forgetOld 5 = .ok (.aload_n 0, 1) := by decide +kernel
theorem dX3_forgetOld_6 : decode cX3_forgetOld 6 = .ok (.getfield 9, 3) := by decide +kernel
theorem dX3_forgetOld_9 : decode cX3_forgetOld 9 = .ok (.iload_n 1, 1) := by decide +kernel
theorem dX3_forgetOld_10 : decode cX3_forgetOld 10 = .ok (.sipush 600, 3) := by decide +kernel
theorem dX3_forgetOld_13 : decode cX3_forgetOld 13 = .ok (.irem, 1) := by decide +kernel
theorem dX3_forgetOld_14 : decode cX3_forgetOld 14 = .ok (.iaload, 1) := by decide +kernel
theorem dX3_forgetOld_15 : decode cX3_forgetOld 15 = .ok (.isub, 1) := by decide +kernel
theorem dX3_forgetOld_16 : decode cX3_forgetOld 16 = .ok (.putfield 15, 3) := by decide +kernel
theorem dX3_forgetOld_19 : decode cX3_forgetOld 19 = .ok (.aload_n 0, 1) := by decide +kernel
theorem dX3_forgetOld_20 : decode cX3_forgetOld 20 = .ok (.getfield 9, 3) := by decide +kernel
theorem dX3_forgetOld_23 : decode cX3_forgetOld 23 = .ok (.iload_n 1, 1) := by decide +kernel
theorem dX3_forgetOld_24 : decode cX3_forgetOld 24 = .ok (.sipush 600, 3) := by decide +kernel
theorem dX3_forgetOld_27 : decode cX3_forgetOld 27 = .ok (.irem, 1) := by decide +kernel
theorem dX3_forgetOld_28 : decode cX3_forgetOld 28 = .ok (.iconst 0, 1) := by decide +kernel
theorem dX3_forgetOld_29 : decode cX3_forgetOld 29 = .ok (.iastore, 1) := by decide +kernel
theorem dX3_forgetOld_30 : decode cX3_forgetOld 30 = .ok (.return_, 1) := by decide +kernel
theorem dX4_init_0 : decode cX4_init 0 = .ok (.aload_n 0, 1) := by decide +kernel
theorem dX4_init_1 : decode cX4_init 1 = .ok (.invokespecial 3, 3) := by decide +kernel
theorem dX4_init_4 : decode cX4_init 4 = .ok (.aload_n 0, 1) := by decide +kernel
theorem dX4_init_5 : decode cX4_init 5 = .ok (.new 9, 3) := by decide +kernel
theorem dX4_init_8 : decode cX4_init 8 = .ok (.dup, 1) := by decide +kernel
theorem dX4_init_9 : decode cX4_init 9 = .ok (.invokespecial 11, 3) := by decide +kernel
theorem dX4_init_12 : decode cX4_init 12 = .ok (.putfield 12, 3) := by decide +kernel
theorem dX4_init_15 : decode cX4_init 15 = .ok (.aload_n 0, 1) := by decide +kernel
theorem dX4_init_16 : decode cX4_init 16 = .ok (.bipush 45, 2) := by decide +kernel
theorem dX4_init_18 : decode cX4_init 18 = .ok (.putfield 18, 3) := by decide +kernel
theorem dX4_init_21 : decode cX4_init 21 = .ok (.return_, 1) := by decide +kernel
theorem dX4_change_0 : decode cX4_change 0 = .ok (.aload_n 0, 1) := by decide +kernel
theorem dX4_change_1 : decode cX4_change 1 = .ok (.getfield 12, 3) := by decide +kernel
theorem dX4_change_4 : decode cX4_change 4 = .ok (.iload_n 1, 1) := by decide +kernel
theorem dX4_change_5 : decode cX4_change 5 = .ok (.invokevirtual 22, 3) := by decide +kernel
theorem dX4_change_8 : decode cX4_change 8 = .ok (.iload_n 2, 1) := by decide +kernel
theorem dX4_change_9 : decode cX4_change 9 = .ok (.invokevirtual 26, 3) := by decide +kernel
theorem dX4_change_12 : decode cX4_change 12 = .ok (.bipush 59, 2) := by decide +kernel
theorem dX4_change_14 : decode cX4_change 14 = .ok (.invokevirtual 26, 3) := by decide +kernel
theorem dX4_change_17 : decode cX4_change 17 = .ok (.pop, 1) := by decide +kernel
theorem dX4_change_18 : decode cX4_change 18 = .ok (.aload_n 0, 1) := by decide +kernel
theorem dX4_change_19 : decode cX4_change 19 = .ok (.iload_n 3, 1) := by decide +kernel
theorem dX4_change_20 : decode cX4_change 20 = .ok (.putfield 18, 3) := by decide +kernel
theorem dX4_change_23 : decode cX4_change 23 = .ok (.aload_n 0, 1) := by decide +kernel
theorem dX4_change_24 : decode cX4_change 24 = .ok (.dup, 1) := by decide +kernel
theorem dX4_change_25 : decode cX4_change 25 = .ok (.getfield 29, 3) := by decide +kernel
theorem dX4_change_28 : decode cX4_change 28 = .ok (.iconst 1, 1) := by decide +kernel
theorem dX4_change_29 : decode cX4_change 29 = .ok (.iadd, 1) := by decide +kernel
theorem dX4_change_30 : decode cX4_change 30 = .ok (.putfield 29, 3) := by decide +kernel
theorem dX4_change_33 : decode cX4_change 33 = .ok (.return_, 1) := by decide +kernel
theorem dX4_timesOf_0 : decode cX4_timesOf 0 = .ok (.iconst 0, 1) := by decide +kernel
theorem dX4_timesOf_1 : decode cX4_timesOf 1 = .ok (.istore_n 2, 1) := by decide +kernel
theorem dX4_timesOf_2 : decode cX4_timesOf 2 = .ok (.iconst 0, 1) := by decide +kernel
theorem dX4_timesOf_3 : decode cX4_timesOf 3 = .ok (.istore_n 3, 1) := by decide +kernel
theorem dX4_timesOf_4 : decode cX4_timesOf 4 = .ok (.iload_n 3, 1) := by decide +kernel
theorem dX4_timesOf_5 : decode cX4_timesOf 5 = .ok (.aload_n 0, 1) := by decide +kernel
theorem dX4_timesOf_6 : decode cX4_timesOf 6 = .ok (.getfield 12, 3) := by decide +kernel
theorem dX4_timesOf_9 : decode cX4_timesOf 9 = .ok (.invokevirtual 33, 3) := by decide +kernel
theorem dX4_timesOf_12 : decode cX4_timesOf 12 = .ok (.if_icmp .ge 29, 3) := by decide +kernel
theorem dX4_timesOf_15 : decode cX4_timesOf 15 = .ok (.iload_n 2, 1) := by decide +kernel
theorem dX4_timesOf_16 : decode cX4_timesOf 16 = .ok (.aload_n 0, 1) := by decide +kernel
theorem dX4_timesOf_17 : decode cX4_timesOf 17 = .ok (.getfield 12, 3) := by decide +kernel
theorem dX4_timesOf_20 : decode cX4_timesOf 20 = .ok (.iload_n 3, 1) := by decide +kernel
theorem dX4_timesOf_21 : decode cX4_timesOf 21 = .ok (.invokevirtual 37, 3) := by decide +kernel
theorem dX4_timesOf_24 : decode cX4_timesOf 24 = .ok (.iload_n 1, 1) := by decide +kernel
theorem dX4_timesOf_25 : decode cX4_timesOf 25 = .ok (.if_icmp .ne 7, 3) := by decide +kernel
theorem dX4_timesOf_28 : decode cX4_timesOf 28 = .ok (.iconst 1, 1) := by decide +kernel
theorem dX4_timesOf_29 : decode cX4_timesOf 29 = .ok (.goto 4, 3) := by decide +kernel
theorem dX4_timesOf_32 : decode cX4_timesOf 32 = .ok (.iconst 0, 1) := by decide +kernel
theorem dX4_timesOf_33 : decode cX4_timesOf 33 = .ok (.iadd, 1) := by decide +kernel
theorem dX4_timesOf_34 : decode cX4_timesOf 34 = .ok (.istore_n 2, 1) := by decide +kernel
theorem dX4_timesOf_35 : decode cX4_timesOf 35 = .ok (.iinc 3 1, 3) := by decide +kernel
theorem dX4_timesOf_38 : decode cX4_timesOf 38 = .ok (.goto (-34), 3) := by decide +kernel
theorem dX4_timesOf_41 : decode cX4_timesOf 41 = .ok (.iload_n 2, 1) := by decide +kernel
theorem dX4_timesOf_42 : decode cX4_timesOf 42 = .ok (.ireturn, 1) := by decide +kernel
theorem dX4_tellsAll_0 : decode cX4_tellsAll 0 = .ok (.aload_n 0, 1) := by decide +kernel
theorem dX4_tellsAll_1 : decode cX4_tellsAll 1 = .ok (.bipush 59, 2) := by decide +kernel
theorem dX4_tellsAll_3 : decode cX4_tellsAll 3 = .ok (.invokevirtual 41, 3) := by decide +kernel
theorem dX4_tellsAll_6 : decode cX4_tellsAll 6 = .ok (.aload_n 0, 1) := by decide +kernel
theorem dX4_tellsAll_7 : decode cX4_tellsAll 7 = .ok (.getfield 29, 3) := by decide +kernel
theorem dX4_tellsAll_10 : decode cX4_tellsAll 10 = .ok (.if_icmp .ne 18, 3) := by decide +kernel
theorem dX4_tellsAll_13 : decode cX4_tellsAll 13 = .ok (.aload_n 0, 1) := by decide +kernel
theorem dX4_tellsAll_14 : decode cX4_tellsAll 14 = .ok (.invokevirtual 45, 3) := by decide +kernel
theorem dX4_tellsAll_17 : decode cX4_tellsAll 17 = .ok (.aload_n 0, 1) := by decide +kernel
theorem dX4_tellsAll_18 : decode cX4_tellsAll 18 = .ok (.getfield 18, 3) := by decide +kernel
theorem dX4_tellsAll_21 : decode cX4_tellsAll 21 = .ok (.if_icmp .ne 7, 3) := by decide +kernel
theorem dX4_tellsAll_24 : decode cX4_tellsAll 24 = .ok (.iconst 1, 1) := by decide +kernel
theorem dX4_tellsAll_25 : decode cX4_tellsAll 25 = .ok (.goto 4, 3) := by decide +kernel
theorem dX4_tellsAll_28 : decode cX4_tellsAll 28 = .ok (.iconst 0, 1) := by decide +kernel
theorem dX4_tellsAll_29 : decode cX4_tellsAll 29 = .ok (.ireturn, 1) := by decide +kernel
theorem dX4_lastTold_0 : decode cX4_lastTold 0 = .ok (.aload_n 0, 1) := by decide +kernel
theorem dX4_lastTold_1 : decode cX4_lastTold 1 = .ok (.getfield 12, 3) := by decide +kernel
theorem dX4_lastTold_4 : decode cX4_lastTold 4 = .ok (.invokevirtual 33, 3) := by decide +kernel
theorem dX4_lastTold_7 : decode cX4_lastTold 7 = .ok (.istore_n 1, 1) := by decide +kernel
theorem dX4_lastTold_8 : decode cX4_lastTold 8 = .ok (.iload_n 1, 1) := by decide +kernel
theorem dX4_lastTold_9 : decode cX4_lastTold 9 = .ok (.iconst 2, 1) := by decide +kernel
theorem dX4_lastTold_10 : decode cX4_lastTold 10 = .ok (.if_icmp .ge 8, 3) := by decide +kernel
theorem dX4_lastTold_13 : decode cX4_lastTold 13 = .ok (.bipush 45, 2) := by decide +kernel
theorem dX4_lastTold_15 : decode cX4_lastTold 15 = .ok (.goto 16, 3) := by decide +kernel
theorem dX4_lastTold_18 : decode cX4_lastTold 18 = .ok (.aload_n 0, 1) := by decide +kernel
theorem dX4_lastTold_19 : decode cX4_lastTold 19 = .ok (.getfield 12, 3) := by decide +kernel
theorem dX4_lastTold_22 : decode cX4_lastTold 22 = .ok (.iload_n 1, 1) := by decide +kernel
theorem dX4_lastTold_23 : decode cX4_lastTold 23 = .ok (.iconst 2, 1) := by decide +kernel
theorem dX4_lastTold_24 : decode cX4_lastTold 24 = .ok (.isub, 1) := by decide +kernel
theorem dX4_lastTold_25 : decode cX4_lastTold 25 = .ok (.invokevirtual 37, 3) := by decide +kernel
theorem dX4_lastTold_28 : decode cX4_lastTold 28 = .ok (.invokestatic 49, 3) := by decide +kernel
theorem dX4_lastTold_31 : decode cX4_lastTold 31 = .ok (.ireturn, 1) := by decide +kernel
theorem dX4_stateBehind_0 : decode cX4_stateBehind 0 = .ok (.iload_n 0, 1) := by decide +kernel
theorem dX4_stateBehind_1 : decode cX4_stateBehind 1 = .ok (.bipush 67, 2) := by decide +kernel
theorem dX4_stateBehind_3 : decode cX4_stateBehind 3 = .ok (.if_icmp .eq 15, 3) := by decide +kernel
theorem dX4_stateBehind_6 : decode cX4_stateBehind 6 = .ok (.iload_n 0, 1) := by decide +kernel
theorem dX4_stateBehind_7 : decode cX4_stateBehind 7 = .ok (.bipush 71, 2) := by decide +kernel
theorem dX4_stateBehind_9 : decode cX4_stateBehind 9 = .ok (.if_icmp .eq 9, 3) := by decide +kernel
theorem dX4_stateBehind_12 : decode cX4_stateBehind 12 = .ok (.iload_n 0, 1) := by decide +kernel
theorem dX4_stateBehind_13 : decode cX4_stateBehind 13 = .ok (.bipush 82, 2) := by decide +kernel
theorem dX4_stateBehind_15 : decode cX4_stateBehind 15 = .ok (.if_icmp .ne 6, 3) := by decide +kernel
theorem dX4_stateBehind_18 : decode cX4_stateBehind 18 = .ok (.bipush 99, 2) := by decide +kernel
theorem dX4_stateBehind_20 : decode cX4_stateBehind 20 = .ok (.ireturn, 1) := by decide +kernel
theorem dX4_stateBehind_21 : decode cX4_stateBehind 21 = .ok (.iload_n 0, 1) := by decide +kernel
theorem dX4_stateBehind_22 : decode cX4_stateBehind 22 = .ok (.bipush 72, 2) := by decide +kernel
theorem dX4_stateBehind_24 : decode cX4_stateBehind 24 = .ok (.if_icmp .ne 6, 3) := by decide +kernel
theorem dX4_stateBehind_27 : decode cX4_stateBehind 27 = .ok (.bipush 104, 2) := by decide +kernel
theorem dX4_stateBehind_29 : decode cX4_stateBehind 29 = .ok (.ireturn, 1) := by decide +kernel
theorem dX4_stateBehind_30 : decode cX4_stateBehind 30 = .ok (.iload_n 0, 1) := by decide +kernel
theorem dX4_stateBehind_31 : decode cX4_stateBehind 31 = .ok (.bipush 83, 2) := by decide +kernel
theorem dX4_stateBehind_33 : decode cX4_stateBehind 33 = .ok (.if_icmp .ne 6, 3) := by decide +kernel
theorem dX4_stateBehind_36 : decode cX4_stateBehind 36 = .ok (.bipush 115, 2) := by decide +kernel
theorem dX4_stateBehind_38 : decode cX4_stateBehind 38 = .ok (.ireturn, 1) := by decide +kernel
theorem dX4_stateBehind_39 : decode cX4_stateBehind 39 = .ok (.iload_n 0, 1) := by decide +kernel
theorem dX4_stateBehind_40 : decode cX4_stateBehind 40 = .ok (.bipush 70, 2) := by decide +kernel
theorem dX4_stateBehind_42 : decode cX4_stateBehind 42 = .ok (.if_icmp .ne 6, 3) := by decide +kernel
theorem dX4_stateBehind_45 : decode cX4_stateBehind 45 = .ok (.bipush 102, 2) := by decide +kernel
theorem dX4_stateBehind_47 : decode cX4_stateBehind 47 = .ok (.ireturn, 1) := by decide +kernel
theorem dX4_stateBehind_48 : decode cX4_stateBehind 48 = .ok (.iload_n 0, 1) := by decide +kernel
theorem dX4_stateBehind_49 : decode cX4_stateBehind 49 = .ok (.bipush 88, 2) := by decide +kernel
theorem dX4_stateBehind_51 : decode cX4_stateBehind 51 = .ok (.if_icmp .ne 8, 3) := by decide +kernel
theorem dX4_stateBehind_54 : decode cX4_stateBehind 54 = .ok (.bipush 120, 2) := by decide +kernel
theorem dX4_stateBehind_56 : decode cX4_stateBehind 56 = .ok (.goto 5, 3) := by decide +kernel
theorem dX4_stateBehind_59 : decode cX4_stateBehind 59 = .ok (.bipush 111, 2) := by decide +kernel
theorem dX4_stateBehind_61 : decode cX4_stateBehind 61 = .ok (.ireturn, 1) := by decide +kernel
theorem dX5_init_0 : decode cX5_init 0 = .ok (.aload_n 0, 1) := by decide +kernel
theorem dX5_init_1 : decode cX5_init 1 = .ok (.invokespecial 3, 3) := by decide +kernel
theorem dX5_init_4 : decode cX5_init 4 = .ok (.aload_n 0, 1) := by decide +kernel
theorem dX5_init_5 : decode cX5_init 5 = .ok (.bipush 6, 2) := by decide +kernel
theorem dX5_init_7 : decode cX5_init 7 = .ok (.newarray .int, 2) := by decide +kernel
theorem dX5_init_9 : decode cX5_init 9 = .ok (.putfield 9, 3) := by decide +kernel
theorem dX5_init_12 : decode cX5_init 12 = .ok (.aload_n 0, 1) := by decide +kernel
theorem dX5_init_13 : decode cX5_init 13 = .ok (.bipush 6, 2) := by decide +kernel
theorem dX5_init_15 : decode cX5_init 15 = .ok (.newarray .int, 2) := by decide +kernel
theorem dX5_init_17 : decode cX5_init 17 = .ok (.putfield 15, 3) := by decide +kernel
theorem dX5_init_20 : decode cX5_init 20 = .ok (.aload_n 0, 1) := by decide +kernel
theorem dX5_init_21 : decode cX5_init 21 = .ok (.bipush 6, 2) := by decide +kernel
theorem dX5_init_23 : decode cX5_init 23 = .ok (.newarray .int, 2) := by decide +kernel
theorem dX5_init_25 : decode cX5_init 25 = .ok (.putfield 18, 3) := by decide +kernel
theorem dX5_init_28 : decode cX5_init 28 = .ok (.return_, 1) := by decide +kernel
theorem dX5_find_0 : decode cX5_find 0 = .ok (.iconst 0, 1) := by decide +kernel
theorem dX5_find_1 : decode cX5_find 1 = .ok (.istore_n 2, 1) := by decide +kernel
theorem dX5_find_2 : decode cX5_find 2 = .ok (.iload_n 2, 1) := by decide +kernel
theorem dX5_find_3 : decode cX5_find 3 = .ok (.aload_n 0, 1) := by decide +kernel
theorem dX5_find_4 : decode cX5_find 4 = .ok (.getfield 21, 3) := by decide +kernel
theorem dX5_find_7 : decode cX5_find 7 = .ok (.if_icmp .ge 21, 3) := by decide +kernel
theorem dX5_find_10 : decode cX5_find 10 = .ok (.aload_n 0, 1) := by decide +kernel
theorem dX5_find_11 : decode cX5_find 11 = .ok (.getfield 9, 3) := by decide +kernel
theorem dX5_find_14 : decode cX5_find 14 = .ok (.iload_n 2, 1) := by decide +kernel
theorem dX5_find_15 : decode cX5_find 15 = .ok (.iaload, 1) := by decide +kernel
theorem dX5_find_16 : decode cX5_find 16 = .ok (.iload_n 1, 1) := by decide +kernel
theorem dX5_find_17 : decode cX5_find 17 = .ok (.if_icmp .ne 5, 3) := by decide +kernel
theorem dX5_find_20 : decode cX5_find 20 = .ok (.iload_n 2, 1) := by decide +kernel
theorem dX5_find_21 : decode cX5_find 21 = .ok (.ireturn, 1) := by decide +kernel
theorem dX5_find_22 : decode cX5_find 22 = .ok (.iinc 2 1, 3) := by decide +kernel
theorem dX5_find_25 : decode cX5_find 25 = .ok (.goto (-23), 3) := by decide +kernel
theorem dX5_find_28 : decode cX5_find 28 = .ok (.iconst (-1), 1) := by decide +kernel
theorem dX5_find_29 : decode cX5_find 29 = .ok (.ireturn, 1) := by decide +kernel
theorem dX5_insert_0 : decode cX5_insert 0 = .ok (.aload_n 0, 1) := by decide +kernel
theorem dX5_insert_1 : decode cX5_insert 1 = .ok (.getfield 21, 3) := by decide +kernel
theorem dX5_insert_4 : decode cX5_insert 4 = .ok (.istore 4, 2) := by decide +kernel
theorem dX5_insert_6 : decode cX5_insert 6 = .ok (.iload 4, 2) := by decide +kernel
theorem dX5_insert_8 : decode cX5_insert 8 = .ok (.ifCond .le 70, 3) := by decide +kernel
theorem dX5_insert_11 : decode cX5_insert 11 = .ok (.aload_n 0, 1) := by decide +kernel
theorem dX5_insert_12 : decode cX5_insert 12 = .ok (.getfield 9, 3) := by decide +kernel
theorem dX5_insert_15 : decode cX5_insert 15 = .ok (.iload 4, 2) := by decide +kernel
theorem dX5_insert_17 : decode cX5_insert 17 = .ok (.iconst 1, 1) := by decide +kernel
theorem dX5_insert_18 : decode cX5_insert 18 = .ok (.isub, 1) := by decide +kernel
theorem dX5_insert_19 : decode cX5_insert 19 = .ok (.iaload, 1) := by decide +kernel
theorem dX5_insert_20 : decode cX5_insert 20 = .ok (.iload_n 1, 1) := by decide +kernel
theorem dX5_insert_21 : decode cX5_insert 21 = .ok (.if_icmp .le 57, 3) := by decide +kernel
theorem dX5_insert_24 : decode cX5_insert 24 = .ok (.aload_n 0, 1) := by decide +kernel
theorem dX5_insert_25 : decode cX5_insert 25 = .ok (.getfield 9, 3) := by decide +kernel
theorem dX5_insert_28 : decode cX5_insert 28 = .ok (.iload 4, 2) := by decide +kernel
theorem dX5_insert_30 : decode cX5_insert 30 = .ok (.aload_n 0, 1) := by decide +kernel
theorem dX5_insert_31 : decode cX5_insert 31 = .ok (.getfield 9, 3) := by decide +kernel
theorem dX5_insert_34 : decode cX5_insert 34 = .ok (.iload 4, 2) := by decide +kernel
theorem dX5_insert_36 : decode cX5_insert 36 = .ok (.iconst 1, 1) := by decide +kernel
theorem dX5_insert_37 : decode cX5_insert 37 = .ok (.isub, 1) := by decide +kernel
theorem dX5_insert_38 : decode cX5_insert 38 = .ok (.iaload, 1) := by decide +kernel
theorem dX5_insert_39 : decode cX5_insert 39 = .ok (.iastore, 1) := by decide +kernel
theorem dX5_insert_40 : decode cX5_insert 40 = .ok (.aload_n 0, 1) := by decide +kernel
theorem dX5_insert_41 : decode cX5_insert 41 = .ok (.getfield 15, 3) := by decide +kernel
theorem dX5_insert_44 : decode cX5_insert 44 = .ok (.iload 4, 2) := by decide +kernel
theorem dX5_insert_46 : decode cX5_insert 46 = .ok (.aload_n 0, 1) := by decide +kernel
theorem dX5_insert_47 : decode cX5_insert 47 = .ok (.getfield 15, 3) := by decide +kernel
theorem dX5_insert_50 : decode cX5_insert 50 = .ok (.iload 4, 2) := by decide +kernel
theorem dX5_insert_52 : decode cX5_insert 52 = .ok (.iconst 1, 1) := by decide +kernel
theorem dX5_insert_53 : decode cX5_insert 53 = .ok (.isub, 1) := by decide +kernel
theorem dX5_insert_54 : decode cX5_insert 54 = .ok (.iaload, 1) := by decide +kernel
theorem dX5_insert_55 : decode cX5_insert 55 = .ok (.iastore, 1) := by decide +kernel
theorem dX5_insert_56 : decode cX5_insert 56 = .ok (.aload_n 0, 1) := by decide +kernel
theorem dX5_insert_57 : decode cX5_insert 57 = .ok (.getfield 18, 3) := by decide +kernel
theorem dX5_insert_60 : decode cX5_insert 60 = .ok (.iload 4, 2) := by decide +kernel
theorem dX5_insert_62 : decode cX5_insert 62 = .ok (.aload_n 0, 1) := by decide +kernel
theorem dX5_insert_63 : decode cX5_insert 63 = .ok (.getfield 18, 3) := by decide +kernel
theorem dX5_insert_66 : decode cX5_insert 66 = .ok (.iload 4, 2) := by decide +kernel
theorem dX5_insert_68 : decode cX5_insert 68 = .ok (.iconst 1, 1) := by decide +kernel
theorem dX5_insert_69 : decode cX5_insert 69 = .ok (.isub, 1) := by decide +kernel
theorem dX5_insert_70 : decode cX5_insert 70 = .ok (.iaload, 1) := by decide +kernel
theorem dX5_insert_71 : decode cX5_insert 71 = .ok (.iastore, 1) := by decide +kernel
theorem dX5_insert_72 : decode cX5_insert 72 = .ok (.iinc 4 (-1), 3) := by decide +kernel
theorem dX5_insert_75 : decode cX5_insert 75 = .ok (.goto (-69), 3) := by decide +kernel
theorem dX5_insert_78 : decode cX5_insert 78 = .ok (.aload_n 0, 1) := by decide +kernel
theorem dX5_insert_79 : decode cX5_insert 79 = .ok (.getfield 9, 3) := by decide +kernel
theorem dX5_insert_82 : decode cX5_insert 82 = .ok (.iload 4, 2) := by decide +kernel
theorem dX5_insert_84 : decode cX5_insert 84 = .ok (.iload_n 1, 1) := by decide +kernel
theorem dX5_insert_85 : decode cX5_insert 85 = .ok (.iastore, 1) := by decide +kernel
theorem dX5_insert_86 : decode cX5_insert 86 = .ok (.aload_n 0, 1) := by decide +kernel
theorem dX5_insert_87 : decode cX5_insert 87 = .ok (.getfield 15, 3) := by decide +kernel
theorem dX5_insert_90 : decode cX5_insert 90 = .ok (.iload 4, 2) := by decide +kernel
theorem dX5_insert_92 : decode cX5_insert 92 = .ok (.iload_n 2, 1) := by decide +kernel
theorem dX5_insert_93 : decode cX5_insert 93 = .ok (.iastore, 1) := by decide +kernel
theorem dX5_insert_94 : decode cX5_insert 94 = .ok (.aload_n 0, 1) := by decide +kernel
theorem dX5_insert_95 : decode cX5_insert 95 = .ok (.getfield 18, 3) := by decide +kernel
theorem dX5_insert_98 : decode cX5_insert 98 = .ok (.iload 4, 2) := by decide +kernel
theorem dX5_insert_100 : decode cX5_insert 100 = .ok (.iload_n 3, 1) := by decide +kernel
theorem dX5_insert_101 : decode cX5_insert 101 = .ok (.iastore, 1) := by decide +kernel
theorem dX5_insert_102 : decode cX5_insert 102 = .ok (.aload_n 0, 1) := by decide +kernel
theorem dX5_insert_103 : decode cX5_insert 103 = .ok (.dup, 1) := by decide +kernel
theorem dX5_insert_104 : decode cX5_insert 104 = .ok (.getfield 21, 3) := by decide +kernel
theorem dX5_insert_107 : decode cX5_insert 107 = .ok (.iconst 1, 1) := by decide +kernel
theorem dX5_insert_108 : decode cX5_insert 108 = .ok (.iadd, 1) := by decide +kernel
theorem dX5_insert_109 : decode cX5_insert 109 = .ok (.putfield 21, 3) := by decide +kernel
theorem dX5_insert_112 : decode cX5_insert 112 = .ok (.return_, 1) := by decide +kernel
theorem dX5_keep_0 : decode cX5_keep 0 = .ok (.aload_n 0, 1) := by decide +kernel
theorem dX5_keep_1 : decode cX5_keep 1 = .ok (.iload_n 1, 1) := by decide +kernel
theorem dX5_keep_2 : decode cX5_keep 2 = .ok (.invokevirtual 25, 3) := by decide +kernel
theorem dX5_keep_5 : decode cX5_keep 5 = .ok (.istore 4, 2) := by decide +kernel
theorem dX5_keep_7 : decode cX5_keep 7 = .ok (.iload 4, 2) := by decide +kernel
theorem dX5_keep_9 : decode cX5_keep 9 = .ok (.iconst (-1), 1) := by decide +kernel
theorem dX5_keep_10 : decode cX5_keep 10 = .ok (.if_icmp .eq 32, 3) := by decide +kernel
theorem dX5_keep_13 : decode cX5_keep 13 = .ok (.iload_n 2, 1) := by decide +kernel
theorem dX5_keep_14 : decode cX5_keep 14 = .ok (.aload_n 0, 1) := by decide +kernel
theorem dX5_keep_15 : decode cX5_keep 15 = .ok (.getfield 15, 3) := by decide +kernel
theorem dX5_keep_18 : decode cX5_keep 18 = .ok (.iload 4, 2) := by decide +kernel
theorem dX5_keep_20 : decode cX5_keep 20 = .ok (.iaload, 1) := by decide +kernel
theorem dX5_keep_21 : decode cX5_keep 21 = .ok (.if_icmp .lt 17, 3) := by decide +kernel
theorem dX5_keep_24 : decode cX5_keep 24 = .ok (.aload_n 3, 1) := by decide +kernel
theorem dX5_keep_25 : decode cX5_keep 25 = .ok (.aload_n 0, 1) := by decide +kernel
theorem dX5_keep_26 : decode cX5_keep 26 = .ok (.getfield 18, 3) := by decide +kernel
theorem dX5_keep_29 : decode cX5_keep 29 = .ok (.iload 4, 2) := by decide +kernel
theorem dX5_keep_31 : decode cX5_keep 31 = .ok (.iaload, 1) := by decide +kernel
theorem dX5_keep_32 : decode cX5_keep 32 = .ok (.invokevirtual 29, 3) := by decide +kernel
theorem dX5_keep_35 : decode cX5_keep 35 = .ok (.ifCond .ne 7, 3) := by decide +kernel
theorem dX5_keep_38 : decode cX5_keep 38 = .ok (.iconst 1, 1) := by decide +kernel
theorem dX5_keep_39 : decode cX5_keep 39 = .ok (.goto 4, 3) := by decide +kernel
theorem dX5_keep_42 : decode cX5_keep 42 = .ok (.iconst 0, 1) := by decide +kernel
theorem dX5_keep_43 : decode cX5_keep 43 = .ok (.ireturn, 1) := by decide +kernel
theorem dX6_init_0 : decode cX6_init 0 = .ok (.aload_n 0, 1) := by decide +kernel
theorem dX6_init_1 : decode cX6_init 1 = .ok (.invokespecial 3, 3) := by decide +kernel
theorem dX6_init_4 : decode cX6_init 4 = .ok (.aload_n 0, 1) := by decide +kernel
theorem dX6_init_5 : decode cX6_init 5 = .ok (.bipush 12, 2) := by decide +kernel
theorem dX6_init_7 : decode cX6_init 7 = .ok (.newarray .char, 2) := by decide +kernel
theorem dX6_init_9 : decode cX6_init 9 = .ok (.putfield 9, 3) := by decide +kernel
theorem dX6_init_12 : decode cX6_init 12 = .ok (.aload_n 0, 1) := by decide +kernel
theorem dX6_init_13 : decode cX6_init 13 = .ok (.bipush 12, 2) := by decide +kernel
theorem dX6_init_15 : decode cX6_init 15 = .ok (.newarray .int, 2) := by decide +kernel
theorem dX6_init_17 : decode cX6_init 17 = .ok (.putfield 15, 3) := by decide +kernel
theorem dX6_init_20 : decode cX6_init 20 = .ok (.aload_n 0, 1) := by decide +kernel
theorem dX6_init_21 : decode cX6_init 21 = .ok (.bipush 12, 2) := by decide +kernel
theorem dX6_init_23 : decode cX6_init 23 = .ok (.newarray .int, 2) := by decide +kernel
theorem dX6_init_25 : decode cX6_init 25 = .ok (.putfield 19, 3) := by decide +kernel
theorem dX6_init_28 : decode cX6_init 28 = .ok (.aload_n 0, 1) := by decide +kernel
theorem dX6_init_29 : decode cX6_init 29 = .ok (.bipush 12, 2) := by decide +kernel
theorem dX6_init_31 : decode cX6_init 31 = .ok (.newarray .int, 2) := by decide +kernel
theorem dX6_init_33 : decode cX6_init 33 = .ok (.putfield 22, 3) := by decide +kernel
theorem dX6_init_36 : decode cX6_init 36 = .ok (.aload_n 0, 1) := by decide +kernel
theorem dX6_init_37 : decode cX6_init 37 = .ok (.bipush 12, 2) := by decide +kernel
theorem dX6_init_39 : decode cX6_init 39 = .ok (.newarray .int, 2) := by decide +kernel
theorem dX6_init_41 : decode cX6_init 41 = .ok (.putfield 25, 3) := by decide +kernel
theorem dX6_init_44 : decode cX6_init 44 = .ok (.aload_n 0, 1) := by decide +kernel
theorem dX6_init_45 : decode cX6_init 45 = .ok (.bipush 12, 2) := by decide +kernel
theorem dX6_init_47 : decode cX6_init 47 = .ok (.newarray .int, 2) := by decide +kernel
theorem dX6_init_49 : decode cX6_init 49 = .ok (.putfield 28, 3) := by decide +kernel
theorem dX6_init_52 : decode cX6_init 52 = .ok (.aload_n 0, 1) := by decide +kernel
theorem dX6_init_53 : decode cX6_init 53 = .ok (.bipush 12, 2) := by decide +kernel
theorem dX6_init_55 : decode cX6_init 55 = .ok (.newarray .int, 2) := by decide +kernel
theorem dX6_init_57 : decode cX6_init 57 = .ok (.putfield 31, 3) := by decide +kernel
theorem dX6_init_60 : decode cX6_init 60 = .ok (.aload_n 0, 1) := by decide +kernel
theorem dX6_init_61 : decode cX6_init 61 = .ok (.bipush 12, 2) := by decide +kernel
theorem dX6_init_63 : decode cX6_init 63 = .ok (.newarray .int, 2) := by decide +kernel
theorem dX6_init_65 : decode cX6_init 65 = .ok (.putfield 34, 3) := by decide +kernel
theorem dX6_init_68 : decode cX6_init 68 = .ok (.aload_n 0, 1) := by decide +kernel
theorem dX6_init_69 : decode cX6_init 69 = .ok (.bipush 12, 2) := by decide +kernel
theorem dX6_init_71 : decode cX6_init 71 = .ok (.newarray .int, 2) := by decide +kernel
theorem dX6_init_73 : decode cX6_init 73 = .ok (.putfield 37, 3) := by decide +kernel
theorem dX6_init_76 : decode cX6_init 76 = .ok (.aload_n 0, 1) := by decide +kernel
theorem dX6_init_77 : decode cX6_init 77 = .ok (.bipush 12, 2) := by decide +kernel
theorem dX6_init_79 : decode cX6_init 79 = .ok (.newarray .int, 2) := by decide +kernel
theorem dX6_init_81 : decode cX6_init 81 = .ok (.putfield 40, 3) := by decide +kernel
theorem dX6_init_84 : decode cX6_init 84 = .ok (.return_, 1) := by decide +kernel
theorem dX6_append_0 : decode cX6_append 0 = .ok (.aload_n 0, 1) := by decide +kernel
theorem dX6_append_1 : decode cX6_append 1 = .ok (.getfield 43, 3) := by decide +kernel
theorem dX6_append_4 : decode cX6_append 4 = .ok (.istore 6, 2) := by decide +kernel
theorem dX6_append_6 : decode cX6_append 6 = .ok (.aload_n 0, 1) := by decide +kernel
theorem dX6_append_7 : decode cX6_append 7 = .ok (.getfield 9, 3) := by decide +kernel
theorem dX6_append_10 : decode cX6_append 10 = .ok (.iload 6, 2) := by decide +kernel
theorem dX6_append_12 : decode cX6_append 12 = .ok (.iload_n 1, 1) := by decide +kernel
theorem dX6_append_13 : decode cX6_append 13 = .ok (.castore, 1) := by decide +kernel
theorem dX6_append_14 : decode cX6_append 14 = .ok (.aload_n 0, 1) := by decide +kernel
theorem dX6_append_15 : decode cX6_append 15 = .ok (.getfield 15, 3) := by decide +kernel
theorem dX6_append_18 : decode cX6_append 18 = .ok (.iload 6, 2) := by decide +kernel
theorem dX6_append_20 : decode cX6_append 20 = .ok (.iload_n 2, 1) := by decide +kernel
theorem dX6_append_21 : decode cX6_append 21 = .ok (.iastore, 1) := by decide +kernel
theorem dX6_append_22 : decode cX6_append 22 = .ok (.aload_n 0, 1) := by decide +kernel
theorem dX6_append_23 : decode cX6_append 23 = .ok (.getfield 19, 3) := by decide +kernel
theorem dX6_append_26 : decode cX6_append 26 = .ok (.iload 6, 2) := by decide +kernel
theorem dX6_append_28 : decode cX6_append 28 = .ok (.iload_n 3, 1) := by decide +kernel
theorem dX6_append_29 : decode cX6_append 29 = .ok (.iastore, 1) := by decide +kernel
theorem dX6_append_30 : decode cX6_append 30 = .ok (.aload_n 0, 1) := by decide +kernel
theorem dX6_append_31 : decode cX6_append 31 = .ok (.getfield 22, 3) := by decide +kernel
theorem dX6_append_34 : decode cX6_append 34 = .ok (.iload 6, 2) := by decide +kernel
theorem dX6_append_36 : decode cX6_append 36 = .ok (.iload 4, 2) := by decide +kernel
theorem dX6_append_38 : decode cX6_append 38 = .ok (.iastore, 1) := by decide +kernel
theorem dX6_append_39 : decode cX6_append 39 = .ok (.aload_n 0, 1) := by decide +kernel
theorem dX6_append_40 : decode cX6_append 40 = .ok (.getfield 25, 3) := by decide +kernel
theorem dX6_append_43 : decode cX6_append 43 = .ok (.iload 6, 2) := by decide +kernel
theorem dX6_append_45 : decode cX6_append 45 = .ok (.iload 5, 2) := by decide +kernel
theorem dX6_append_47 : decode cX6_append 47 = .ok (.iastore, 1) := by decide +kernel
theorem dX6_append_48 : decode cX6_append 48 = .ok (.aload_n 0, 1) := by decide +kernel
theorem dX6_append_49 : decode cX6_append 49 = .ok (.getfield 37, 3) := by decide +kernel
theorem dX6_append_52 : decode cX6_append 52 = .ok (.iload 6, 2) := by decide +kernel
theorem dX6_append_54 : decode cX6_append 54 = .ok (.iconst (-1), 1) := by decide +kernel
theorem dX6_append_55 : decode cX6_append 55 = .ok (.iastore, 1) := by decide +kernel
theorem dX6_append_56 : decode cX6_append 56 = .ok (.aload_n 0, 1) := by decide +kernel
theorem dX6_append_57 : decode cX6_append 57 = .ok (.dup, 1) := by decide +kernel
theorem dX6_append_58 : decode cX6_append 58 = .ok (.getfield 43, 3) := by decide +kernel
theorem dX6_append_61 : decode cX6_append 61 = .ok (.iconst 1, 1) := by decide +kernel
theorem dX6_append_62 : decode cX6_append 62 = .ok (.iadd, 1) := by decide +kernel
theorem dX6_append_63 : decode cX6_append 63 = .ok (.putfield 43, 3) := by decide +kernel
theorem dX6_append_66 : decode cX6_append 66 = .ok (.iload 6, 2) := by decide +kernel
theorem dX6_append_68 : decode cX6_append 68 = .ok (.ireturn, 1) := by decide +kernel
theorem dX6_lookAt_0 : decode cX6_lookAt 0 = .ok (.aload_n 0, 1) := by decide +kernel
theorem dX6_lookAt_1 : decode cX6_lookAt 1 = .ok (.getfield 28, 3) := by decide +kernel
theorem dX6_lookAt_4 : decode cX6_lookAt 4 = .ok (.iload_n 1, 1) := by decide +kernel
theorem dX6_lookAt_5 : decode cX6_lookAt 5 = .ok (.iload_n 2, 1) := by decide +kernel
theorem dX6_lookAt_6 : decode cX6_lookAt 6 = .ok (.iastore, 1) := by decide +kernel
theorem dX6_lookAt_7 : decode cX6_lookAt 7 = .ok (.aload_n 0, 1) := by decide +kernel
theorem dX6_lookAt_8 : decode cX6_lookAt 8 = .ok (.getfield 31, 3) := by decide +kernel
theorem dX6_lookAt_11 : decode cX6_lookAt 11 = .ok (.iload_n 1, 1) := by decide +kernel
theorem dX6_lookAt_12 : decode cX6_lookAt 12 = .ok (.aload_n 0, 1) := by decide +kernel
theorem dX6_lookAt_13 : decode cX6_lookAt 13 = .ok (.iload_n 1, 1) := by decide +kernel
theorem dX6_lookAt_14 : decode cX6_lookAt 14 = .ok (.iload_n 2, 1) := by decide +kernel
theorem dX6_lookAt_15 : decode cX6_lookAt 15 = .ok (.invokevirtual 47, 3) := by decide +kernel
theorem dX6_lookAt_18 : decode cX6_lookAt 18 = .ok (.ifCond .eq 14, 3) := by decide +kernel
theorem dX6_lookAt_21 : decode cX6_lookAt 21 = .ok (.aload_n 0, 1) := by decide +kernel
theorem dX6_lookAt_22 : decode cX6_lookAt 22 = .ok (.getfield 31, 3) := by decide +kernel
theorem dX6_lookAt_25 : decode cX6_lookAt 25 = .ok (.iload_n 1, 1) := by decide +kernel
theorem dX6_lookAt_26 : decode cX6_lookAt 26 = .ok (.iaload, 1) := by decide +kernel
theorem dX6_lookAt_27 : decode cX6_lookAt 27 = .ok (.iconst 1, 1) := by decide +kernel
theorem dX6_lookAt_28 : decode cX6_lookAt 28 = .ok (.iadd, 1) := by decide +kernel
theorem dX6_lookAt_29 : decode cX6_lookAt 29 = .ok (.goto 4, 3) := by decide +kernel
theorem dX6_lookAt_32 : decode cX6_lookAt 32 = .ok (.iconst 0, 1) := by decide +kernel
theorem dX6_lookAt_33 : decode cX6_lookAt 33 = .ok (.iastore, 1) := by decide +kernel
theorem dX6_lookAt_34 : decode cX6_lookAt 34 = .ok (.return_, 1) := by decide +kernel
theorem dX6_holdsBy_0 : decode cX6_holdsBy 0 = .ok (.iload_n 2, 1) := by decide +kernel
theorem dX6_holdsBy_1 : decode cX6_holdsBy 1 = .ok (.aload_n 0, 1) := by decide +kernel
theorem dX6_holdsBy_2 : decode cX6_holdsBy 2 = .ok (.getfield 19, 3) := by decide +kernel
theorem dX6_holdsBy_5 : decode cX6_holdsBy 5 = .ok (.iload_n 1, 1) := by decide +kernel
theorem dX6_holdsBy_6 : decode cX6_holdsBy 6 = .ok (.iaload, 1) := by decide +kernel
theorem dX6_holdsBy_7 : decode cX6_holdsBy 7 = .ok (.if_icmp .lt 17, 3) := by decide +kernel
theorem dX6_holdsBy_10 : decode cX6_holdsBy 10 = .ok (.iload_n 2, 1) := by decide +kernel
theorem dX6_holdsBy_11 : decode cX6_holdsBy 11 = .ok (.aload_n 0, 1) := by decide +kernel
theorem dX6_holdsBy_12 : decode cX6_holdsBy 12 = .ok (.getfield 22, 3) := by decide +kernel
theorem dX6_holdsBy_15 : decode cX6_holdsBy 15 = .ok (.iload_n 1, 1) := by decide +kernel
theorem dX6_holdsBy_16 : decode cX6_holdsBy 16 = .ok (.iaload, 1) := by decide +kernel
theorem dX6_holdsBy_17 : decode cX6_holdsBy 17 = .ok (.if_icmp .gt 7, 3) := by decide +kernel
theorem dX6_holdsBy_20 : decode cX6_holdsBy 20 = .ok (.iconst 1, 1) := by decide +kernel
theorem dX6_holdsBy_21 : decode cX6_holdsBy 21 = .ok (.goto 4, 3) := by decide +kernel
theorem dX6_holdsBy_24 : decode cX6_holdsBy 24 = .ok (.iconst 0, 1) := by decide +kernel
theorem dX6_holdsBy_25 : decode cX6_holdsBy 25 = .ok (.ireturn, 1) := by decide +kernel
theorem dX6_isMetBy_0 : decode cX6_isMetBy 0 = .ok (.aload_n 0, 1) := by decide +kernel
theorem dX6_isMetBy_1 : decode cX6_isMetBy 1 = .ok (.getfield 31, 3) := by decide +kernel
theorem dX6_isMetBy_4 : decode cX6_isMetBy 4 = .ok (.iload_n 1, 1) := by decide +kernel
theorem dX6_isMetBy_5 : decode cX6_isMetBy 5 = .ok (.iaload, 1) := by decide +kernel
theorem dX6_isMetBy_6 : decode cX6_isMetBy 6 = .ok (.aload_n 0, 1) := by decide +kernel
theorem dX6_isMetBy_7 : decode cX6_isMetBy 7 = .ok (.getfield 25, 3) := by decide +kernel
theorem dX6_isMetBy_10 : decode cX6_isMetBy 10 = .ok (.iload_n 1, 1) := by decide +kernel
theorem dX6_isMetBy_11 : decode cX6_isMetBy 11 = .ok (.iaload, 1) := by decide +kernel
theorem dX6_isMetBy_12 : decode cX6_isMetBy 12 = .ok (.if_icmp .lt 16, 3) := by decide +kernel
theorem dX6_isMetBy_15 : decode cX6_isMetBy 15 = .ok (.aload_n 0, 1) := by decide +kernel
theorem dX6_isMetBy_16 : decode cX6_isMetBy 16 = .ok (.iload_n 1, 1) := by decide +kernel
theorem dX6_isMetBy_17 : decode cX6_isMetBy 17 = .ok (.iload_n 2, 1) := by decide +kernel
theorem dX6_isMetBy_18 : decode cX6_isMetBy 18 = .ok (.invokevirtual 47, 3) := by decide +kernel
theorem dX6_isMetBy_21 : decode cX6_isMetBy 21 = .ok (.ifCond .eq 7, 3) := by decide +kernel
theorem dX6_isMetBy_24 : decode cX6_isMetBy 24 = .ok (.iconst 1, 1) := by decide +kernel
theorem dX6_isMetBy_25 : decode cX6_isMetBy 25 = .ok (.goto 4, 3) := by decide +kernel
theorem dX6_isMetBy_28 : decode cX6_isMetBy 28 = .ok (.iconst 0, 1) := by decide +kernel
theorem dX6_isMetBy_29 : decode cX6_isMetBy 29 = .ok (.ireturn, 1) := by decide +kernel
theorem dX6_isWaivedAt_0 : decode cX6_isWaivedAt 0 = .ok (.aload_n 0, 1) := by decide +kernel
theorem dX6_isWaivedAt_1 : decode cX6_isWaivedAt 1 = .ok (.getfield 37, 3) := by decide +kernel
theorem dX6_isWaivedAt_4 : decode cX6_isWaivedAt 4 = .ok (.iload_n 1, 1) := by decide +kernel
theorem dX6_isWaivedAt_5 : decode cX6_isWaivedAt 5 = .ok (.iaload, 1) := by decide +kernel
theorem dX6_isWaivedAt_6 : decode cX6_isWaivedAt 6 = .ok (.iconst (-1), 1) := by decide +kernel
theorem dX6_isWaivedAt_7 : decode cX6_isWaivedAt 7 = .ok (.if_icmp .eq 17, 3) := by decide +kernel
theorem dX6_isWaivedAt_10 : decode cX6_isWaivedAt 10 = .ok (.iload_n 2, 1) := by decide +kernel
theorem dX6_isWaivedAt_11 : decode cX6_isWaivedAt 11 = .ok (.aload_n 0, 1) := by decide +kernel
theorem dX6_isWaivedAt_12 : decode cX6_isWaivedAt 12 = .ok (.getfield 40, 3) := by decide +kernel
theorem dX6_isWaivedAt_15 : decode cX6_isWaivedAt 15 = .ok (.iload_n 1, 1) := by decide +kernel
theorem dX6_isWaivedAt_16 : decode cX6_isWaivedAt 16 = .ok (.iaload, 1) := by decide +kernel
theorem dX6_isWaivedAt_17 : decode cX6_isWaivedAt 17 = .ok (.if_icmp .gt 7, 3) := by decide +kernel
theorem dX6_isWaivedAt_20 : decode cX6_isWaivedAt 20 = .ok (.iconst 1, 1) := by decide +kernel
theorem dX6_isWaivedAt_21 : decode cX6_isWaivedAt 21 = .ok (.goto 4, 3) := by decide +kernel
theorem dX6_isWaivedAt_24 : decode cX6_isWaivedAt 24 = .ok (.iconst 0, 1) := by decide +kernel
theorem dX6_isWaivedAt_25 : decode cX6_isWaivedAt 25 = .ok (.ireturn, 1) := by decide +kernel
theorem dX6_firstNotMet_0 : decode cX6_firstNotMet 0 = .ok (.iconst 0, 1) := by decide +kernel
theorem dX6_firstNotMet_1 : decode cX6_firstNotMet 1 = .ok (.istore_n 2, 1) := by decide +kernel
theorem dX6_firstNotMet_2 : decode cX6_firstNotMet 2 = .ok (.iload_n 2, 1) := by decide +kernel
theorem dX6_firstNotMet_3 : decode cX6_firstNotMet 3 = .ok (.aload_n 0, 1) := by decide +kernel
theorem dX6_firstNotMet_4 : decode cX6_firstNotMet 4 = .ok (.getfield 43, 3) := by decide +kernel
theorem dX6_firstNotMet_7 : decode cX6_firstNotMet 7 = .ok (.if_icmp .ge 34, 3) := by decide +kernel
theorem dX6_firstNotMet_10 : decode cX6_firstNotMet 10 = .ok (.aload_n 0, 1) := by decide +kernel
theorem dX6_firstNotMet_11 : decode cX6_firstNotMet 11 = .ok (.iload_n 2, 1) := by decide +kernel
theorem dX6_firstNotMet_12 : decode cX6_firstNotMet 12 = .ok (.aload_n 0, 1) := by decide +kernel
theorem dX6_firstNotMet_13 : decode cX6_firstNotMet 13 = .ok (.getfield 28, 3) := by decide +kernel
theorem dX6_firstNotMet_16 : decode cX6_firstNotMet 16 = .ok (.iload_n 2, 1) := by decide +kernel
theorem dX6_firstNotMet_17 : decode cX6_firstNotMet 17 = .ok (.iaload, 1) := by decide +kernel
theorem dX6_firstNotMet_18 : decode cX6_firstNotMet 18 = .ok (.invokevirtual 51, 3) := by decide +kernel
theorem dX6_firstNotMet_21 : decode cX6_firstNotMet 21 = .ok (.ifCond .ne 14, 3) := by decide +kernel
theorem dX6_firstNotMet_24 : decode cX6_firstNotMet 24 = .ok (.aload_n 0, 1) := by decide +kernel
theorem dX6_firstNotMet_25 : decode cX6_firstNotMet 25 = .ok (.iload_n 2, 1) := by decide +kernel
theorem dX6_firstNotMet_26 : decode cX6_firstNotMet 26 = .ok (.iload_n 1, 1) := by decide +kernel
theorem dX6_firstNotMet_27 : decode cX6_firstNotMet 27 = .ok (.invokevirtual 54, 3) := by decide +kernel
theorem dX6_firstNotMet_30 : decode cX6_firstNotMet 30 = .ok (.ifCond .ne 5, 3) := by decide +kernel
theorem dX6_firstNotMet_33 : decode cX6_firstNotMet 33 = .ok (.iload_n 2, 1) := by decide +kernel
theorem dX6_firstNotMet_34 : decode cX6_firstNotMet 34 = .ok (.ireturn, 1) := by decide +kernel
theorem dX6_firstNotMet_35 : decode cX6_firstNotMet 35 = .ok (.iinc 2 1, 3) := by decide +kernel
theorem dX6_firstNotMet_38 : decode cX6_firstNotMet 38 = .ok (.goto (-36), 3) := by decide +kernel
theorem dX6_firstNotMet_41 : decode cX6_firstNotMet 41 = .ok (.iconst (-1), 1) := by decide +kernel
theorem dX6_firstNotMet_42 : decode cX6_firstNotMet 42 = .ok (.ireturn, 1) := by decide +kernel
theorem dX6_areGood_0 : decode cX6_areGood 0 = .ok (.iconst 0, 1) := by decide +kernel
theorem dX6_areGood_1 : decode cX6_areGood 1 = .ok (.istore_n 2, 1) := by decide +kernel
theorem dX6_areGood_2 : decode cX6_areGood 2 = .ok (.iload_n 2, 1) := by decide +kernel
theorem dX6_areGood_3 : decode cX6_areGood 3 = .ok (.aload_n 0, 1) := by decide +kernel
theorem dX6_areGood_4 : decode cX6_areGood 4 = .ok (.getfield 43, 3) := by decide +kernel
theorem dX6_areGood_7 : decode cX6_areGood 7 = .ok (.if_icmp .ge 48, 3) := by decide +kernel
theorem dX6_areGood_10 : decode cX6_areGood 10 = .ok (.aload_n 0, 1) := by decide +kernel
theorem dX6_areGood_11 : decode cX6_areGood 11 = .ok (.iload_n 2, 1) := by decide +kernel
theorem dX6_areGood_12 : decode cX6_areGood 12 = .ok (.aload_n 0, 1) := by decide +kernel
theorem dX6_areGood_13 : decode cX6_areGood 13 = .ok (.getfield 28, 3) := by decide +kernel
theorem dX6_areGood_16 : decode cX6_areGood 16 = .ok (.iload_n 2, 1) := by decide +kernel
theorem dX6_areGood_17 : decode cX6_areGood 17 = .ok (.iaload, 1) := by decide +kernel
theorem dX6_areGood_18 : decode cX6_areGood 18 = .ok (.invokevirtual 51, 3) := by decide +kernel
theorem dX6_areGood_21 : decode cX6_areGood 21 = .ok (.ifCond .ne 28, 3) := by decide +kernel
theorem dX6_areGood_24 : decode cX6_areGood 24 = .ok (.aload_n 0, 1) := by decide +kernel
theorem dX6_areGood_25 : decode cX6_areGood 25 = .ok (.iload_n 2, 1) := by decide +kernel
theorem dX6_areGood_26 : decode cX6_areGood 26 = .ok (.iload_n 1, 1) := by decide +kernel
theorem dX6_areGood_27 : decode cX6_areGood 27 = .ok (.invokevirtual 54, 3) := by decide +kernel
theorem dX6_areGood_30 : decode cX6_areGood 30 = .ok (.ifCond .eq 17, 3) := by decide +kernel
theorem dX6_areGood_33 : decode cX6_areGood 33 = .ok (.aload_n 0, 1) := by decide +kernel
theorem dX6_areGood_34 : decode cX6_areGood 34 = .ok (.iload_n 2, 1) := by decide +kernel
theorem dX6_areGood_35 : decode cX6_areGood 35 = .ok (.aload_n 0, 1) := by decide +kernel
theorem dX6_areGood_36 : decode cX6_areGood 36 = .ok (.getfield 37, 3) := by decide +kernel
theorem dX6_areGood_39 : decode cX6_areGood 39 = .ok (.iload_n 2, 1) := by decide +kernel
theorem dX6_areGood_40 : decode cX6_areGood 40 = .ok (.iaload, 1) := by decide +kernel
theorem dX6_areGood_41 : decode cX6_areGood 41 = .ok (.invokevirtual 57, 3) := by decide +kernel
theorem dX6_areGood_44 : decode cX6_areGood 44 = .ok (.ifCond .ne 5, 3) := by decide +kernel
theorem dX6_areGood_47 : decode cX6_areGood 47 = .ok (.iconst 0, 1) := by decide +kernel
theorem dX6_areGood_48 : decode cX6_areGood 48 = .ok (.ireturn, 1) := by decide +kernel
theorem dX6_areGood_49 : decode cX6_areGood 49 = .ok (.iinc 2 1, 3) := by decide +kernel
theorem dX6_areGood_52 : decode cX6_areGood 52 = .ok (.goto (-50), 3) := by decide +kernel
theorem dX6_areGood_55 : decode cX6_areGood 55 = .ok (.iconst 1, 1) := by decide +kernel
theorem dX6_areGood_56 : decode cX6_areGood 56 = .ok (.ireturn, 1) := by decide +kernel
theorem dX6_isWaiver_0 : decode cX6_isWaiver 0 = .ok (.aload_n 0, 1) := by decide +kernel
theorem dX6_isWaiver_1 : decode cX6_isWaiver 1 = .ok (.getfield 34, 3) := by decide +kernel
theorem dX6_isWaiver_4 : decode cX6_isWaiver 4 = .ok (.iload_n 1, 1) := by decide +kernel
theorem dX6_isWaiver_5 : decode cX6_isWaiver 5 = .ok (.iaload, 1) := by decide +kernel
theorem dX6_isWaiver_6 : decode cX6_isWaiver 6 = .ok (.iload_n 2, 1) := by decide +kernel
theorem dX6_isWaiver_7 : decode cX6_isWaiver 7 = .ok (.ishr, 1) := by decide +kernel
theorem dX6_isWaiver_8 : decode cX6_isWaiver 8 = .ok (.iconst 1, 1) := by decide +kernel
theorem dX6_isWaiver_9 : decode cX6_isWaiver 9 = .ok (.iand, 1) := by decide +kernel
theorem dX6_isWaiver_10 : decode cX6_isWaiver 10 = .ok (.iconst 1, 1) := by decide +kernel
theorem dX6_isWaiver_11 : decode cX6_isWaiver 11 = .ok (.if_icmp .ne 7, 3) := by decide +kernel
theorem dX6_isWaiver_14 : decode cX6_isWaiver 14 = .ok (.iconst 1, 1) := by decide +kernel
theorem dX6_isWaiver_15 : decode cX6_isWaiver 15 = .ok (.goto 4, 3) := by decide +kernel
theorem dX6_isWaiver_18 : decode cX6_isWaiver 18 = .ok (.iconst 0, 1) := by decide +kernel
theorem dX6_isWaiver_19 : decode cX6_isWaiver 19 = .ok (.ireturn, 1) := by decide +kernel
theorem dX6_endWaivers_0 : decode cX6_endWaivers 0 = .ok (.iconst 0, 1) := by decide +kernel
theorem dX6_endWaivers_1 : decode cX6_endWaivers 1 = .ok (.istore_n 1, 1) := by decide +kernel
theorem dX6_endWaivers_2 : decode cX6_endWaivers 2 = .ok (.iload_n 1, 1) := by decide +kernel
theorem dX6_endWaivers_3 : decode cX6_endWaivers 3 = .ok (.aload_n 0, 1) := by decide +kernel
theorem dX6_endWaivers_4 : decode cX6_endWaivers 4 = .ok (.getfield 43, 3) := by decide +kernel
theorem dX6_endWaivers_7 : decode cX6_endWaivers 7 = .ok (.if_icmp .ge 16, 3) := by decide +kernel
theorem dX6_endWaivers_10 : decode cX6_endWaivers 10 = .ok (.aload_n 0, 1) := by decide +kernel
theorem dX6_endWaivers_11 : decode cX6_endWaivers 11 = .ok (.getfield 37, 3) := by decide +kernel
theorem dX6_endWaivers_14 : decode cX6_endWaivers 14 = .ok (.iload_n 1, 1) := by decide +kernel
theorem dX6_endWaivers_15 : decode cX6_endWaivers 15 = .ok (.iconst (-1), 1) := by decide +kernel
theorem dX6_endWaivers_16 : decode cX6_endWaivers 16 = .ok (.iastore, 1) := by decide +kernel
theorem dX6_endWaivers_17 : decode cX6_endWaivers 17 = .ok (.iinc 1 1, 3) := by decide +kernel
theorem dX6_endWaivers_20 : decode cX6_endWaivers 20 = .ok (.goto (-18), 3) := by decide +kernel
theorem dX6_endWaivers_23 : decode cX6_endWaivers 23 = .ok (.return_, 1) := by decide +kernel
theorem dX7_init_0 : decode cX7_init 0 = .ok (.aload_n 0, 1) := by decide +kernel
theorem dX7_init_1 : decode cX7_init 1 = .ok (.invokespecial 3, 3) := by decide +kernel
theorem dX7_init_4 : decode cX7_init 4 = .ok (.aload_n 0, 1) := by decide +kernel
theorem dX7_init_5 : decode cX7_init 5 = .ok (.bipush 9, 2) := by decide +kernel
theorem dX7_init_7 : decode cX7_init 7 = .ok (.newarray .int, 2) := by decide +kernel
theorem dX7_init_9 : decode cX7_init 9 = .ok (.putfield 9, 3) := by decide +kernel
theorem dX7_init_12 : decode cX7_init 12 = .ok (.aload_n 0, 1) := by decide +kernel
theorem dX7_init_13 : decode cX7_init 13 = .ok (.bipush 9, 2) := by decide +kernel
theorem dX7_init_15 : decode cX7_init 15 = .ok (.newarray .boolean, 2) := by decide +kernel
theorem dX7_init_17 : decode cX7_init 17 = .ok (.putfield 15, 3) := by decide +kernel
theorem dX7_init_20 : decode cX7_init 20 = .ok (.return_, 1) := by decide +kernel
theorem dX7_countThatCount_0 : decode cX7_countThatCount 0 = .ok (.iconst 0, 1) := by decide +kernel
theorem dX7_countThatCount_1 : decode cX7_countThatCount 1 = .ok (.istore_n 2, 1) := by decide +kernel
theorem dX7_countThatCount_2 : decode cX7_countThatCount 2 = .ok (.iconst 3, 1) := by decide +kernel
theorem dX7_countThatCount_3 : decode cX7_countThatCount 3 = .ok (.iload_n 1, 1) := by decide +kernel
theorem dX7_countThatCount_4 : decode cX7_countThatCount 4 = .ok (.imul, 1) := by decide +kernel
theorem dX7_countThatCount_5 : decode cX7_countThatCount 5 = .ok (.istore_n 3, 1) := by decide +kernel
theorem dX7_countThatCount_6 : decode cX7_countThatCount 6 = .ok (.iload_n 3, 1) := by decide +kernel
theorem dX7_countThatCount_7 : decode cX7_countThatCount 7 = .ok (.iconst 3, 1) := by decide +kernel
theorem dX7_countThatCount_8 : decode cX7_countThatCount 8 = .ok (.iload_n 1, 1) := by decide +kernel
theorem dX7_countThatCount_9 : decode cX7_countThatCount 9 = .ok (.imul, 1) := by decide +kernel
theorem dX7_countThatCount_10 : decode cX7_countThatCount 10 = .ok (.iconst 3, 1) := by decide +kernel
theorem dX7_countThatCount_11 : decode cX7_countThatCount 11 = .ok (.iadd, 1) := by decide +kernel
theorem dX7_countThatCount_12 : decode cX7_countThatCount 12 = .ok (.if_icmp .ge 26, 3) := by decide +kernel
theorem dX7_countThatCount_15 : decode cX7_countThatCount 15 = .ok (.iload_n 2, 1) := by decide +kernel
theorem dX7_countThatCount_16 : decode cX7_countThatCount 16 = .ok (.aload_n 0, 1) := by decide +kernel
theorem dX7_countThatCount_17 : decode cX7_countThatCount 17 = .ok (.getfield 15, 3) := by decide +kernel
theorem dX7_countThatCount_20 : decode cX7_countThatCount 20 = .ok (.iload_n 3, 1) := by decide +kernel
theorem dX7_countThatCount_21 : decode cX7_countThatCount 21 = .ok (.baload, 1) := by decide +kernel
theorem dX7_countThatCount_22 : decode cX7_countThatCount 22 = .ok (.ifCond .eq 7, 3) := by decide +kernel
theorem dX7_countThatCount_25 : decode cX7_countThatCount 25 = .ok (.iconst 0, 1) := by decide +kernel
theorem dX7_countThatCount_26 : decode cX7_countThatCount 26 = .ok (.goto 4, 3) := by decide +kernel
theorem dX7_countThatCount_29 : decode cX7_countThatCount 29 = .ok (.iconst 1, 1) := by decide +kernel
theorem dX7_countThatCount_30 : decode cX7_countThatCount 30 = .ok (.iadd, 1) := by decide +kernel
theorem dX7_countThatCount_31 : decode cX7_countThatCount 31 = .ok (.istore_n 2, 1) := by decide +kernel
theorem dX7_countThatCount_32 : decode cX7_countThatCount 32 = .ok (.iinc 3 1, 3) := by decide +kernel
theorem dX7_countThatCount_35 : decode cX7_countThatCount 35 = .ok (.goto (-29), 3) := by decide +kernel
theorem dX7_countThatCount_38 : decode cX7_countThatCount 38 = .ok (.iload_n 2, 1) := by decide +kernel
theorem dX7_countThatCount_39 : decode cX7_countThatCount 39 = .ok (.ireturn, 1) := by decide +kernel
theorem dX7_isLastOfThree_0 : decode cX7_isLastOfThree 0 = .ok (.aload_n 0, 1) := by decide +kernel
theorem dX7_isLastOfThree_1 : decode cX7_isLastOfThree 1 = .ok (.getfield 15, 3) := by decide +kernel
theorem dX7_isLastOfThree_4 : decode cX7_isLastOfThree 4 = .ok (.iload_n 1, 1) := by decide +kernel
theorem dX7_isLastOfThree_5 : decode cX7_isLastOfThree 5 = .ok (.baload, 1) := by decide +kernel
theorem dX7_isLastOfThree_6 : decode cX7_isLastOfThree 6 = .ok (.ifCond .ne 18, 3) := by decide +kernel
theorem dX7_isLastOfThree_9 : decode cX7_isLastOfThree 9 = .ok (.aload_n 0, 1) := by decide +kernel
theorem dX7_isLastOfThree_10 : decode cX7_isLastOfThree 10 = .ok (.iload_n 1, 1) := by decide +kernel
theorem dX7_isLastOfThree_11 : decode cX7_isLastOfThree 11 = .ok (.iconst 3, 1) := by decide +kernel
theorem dX7_isLastOfThree_12 : decode cX7_isLastOfThree 12 = .ok (.idiv, 1) := by decide +kernel
theorem dX7_isLastOfThree_13 : decode cX7_isLastOfThree 13 = .ok (.invokevirtual 19, 3) := by decide +kernel
theorem dX7_isLastOfThree_16 : decode cX7_isLastOfThree 16 = .ok (.iconst 1, 1) := by decide +kernel
theorem dX7_isLastOfThree_17 : decode cX7_isLastOfThree 17 = .ok (.if_icmp .ne 7, 3) := by decide +kernel
theorem dX7_isLastOfThree_20 : decode cX7_isLastOfThree 20 = .ok (.iconst 1, 1) := by decide +kernel
theorem dX7_isLastOfThree_21 : decode cX7_isLastOfThree 21 = .ok (.goto 4, 3) := by decide +kernel
theorem dX7_isLastOfThree_24 : decode cX7_isLastOfThree 24 = .ok (.iconst 0, 1) := by decide +kernel
theorem dX7_isLastOfThree_25 : decode cX7_isLastOfThree 25 = .ok (.ireturn, 1) := by decide +kernel
theorem dX7_tellTogether_0 : decode cX7_tellTogether 0 = .ok (.aload_n 0, 1) := by decide +kernel
theorem dX7_tellTogether_1 : decode cX7_tellTogether 1 = .ok (.iload_n 1, 1) := by decide +kernel
theorem dX7_tellTogether_2 : decode cX7_tellTogether 2 = .ok (.invokevirtual 19, 3) := by decide +kernel
theorem dX7_tellTogether_5 : decode cX7_tellTogether 5 = .ok (.istore_n 2, 1) := by decide +kernel
theorem dX7_tellTogether_6 : decode cX7_tellTogether 6 = .ok (.iconst 0, 1) := by decide +kernel
theorem dX7_tellTogether_7 : decode cX7_tellTogether 7 = .ok (.istore_n 3, 1) := by decide +kernel
theorem dX7_tellTogether_8 : decode cX7_tellTogether 8 = .ok (.sipush 9999, 3) := by decide +kernel
theorem dX7_tellTogether_11 : decode cX7_tellTogether 11 = .ok (.istore 4, 2) := by decide +kernel
theorem dX7_tellTogether_13 : decode cX7_tellTogether 13 = .ok (.sipush (-9999), 3) := by decide +kernel
theorem dX7_tellTogether_16 : decode cX7_tellTogether 16 = .ok (.istore 5, 2) := by decide +kernel
theorem dX7_tellTogether_18 : decode cX7_tellTogether 18 = .ok (.iconst 3, 1) := by decide +kernel
theorem dX7_tellTogether_19 : decode cX7_tellTogether 19 = .ok (.iload_n 1, 1) := by decide +kernel
theorem dX7_tellTogether_20 : decode cX7_tellTogether 20 = .ok (.imul, 1) := by decide +kernel
theorem dX7_tellTogether_21 : decode cX7_tellTogether 21 = .ok (.istore 6, 2) := by decide +kernel
theorem dX7_tellTogether_23 : decode cX7_tellTogether 23 = .ok (.iload 6, 2) := by decide +kernel
theorem dX7_tellTogether_25 : decode cX7_tellTogether 25 = .ok (.iconst 3, 1) := by decide +kernel
theorem dX7_tellTogether_26 : decode cX7_tellTogether 26 = .ok (.iload_n 1, 1) := by decide +kernel
theorem dX7_tellTogether_27 : decode cX7_tellTogether 27 = .ok (.imul, 1) := by decide +kernel
theorem dX7_tellTogether_28 : decode cX7_tellTogether 28 = .ok (.iconst 3, 1) := by decide +kernel
theorem dX7_tellTogether_29 : decode cX7_tellTogether 29 = .ok (.iadd, 1) := by decide +kernel
theorem dX7_tellTogether_30 : decode cX7_tellTogether 30 = .ok (.if_icmp .ge 57, 3) := by decide +kernel
theorem dX7_tellTogether_33 : decode cX7_tellTogether 33 = .ok (.aload_n 0, 1) := by decide +kernel
theorem dX7_tellTogether_34 : decode cX7_tellTogether 34 = .ok (.getfield 15, 3) := by decide +kernel
theorem dX7_tellTogether_37 : decode cX7_tellTogether 37 = .ok (.iload 6, 2) := by decide +kernel
theorem dX7_tellTogether_39 : decode cX7_tellTogether 39 = .ok (.baload, 1) := by decide +kernel
theorem dX7_tellTogether_40 : decode cX7_tellTogether 40 = .ok (.ifCond .ne 41, 3) := by decide +kernel
theorem dX7_tellTogether_43 : decode cX7_tellTogether 43 = .ok (.iload_n 3, 1) := by decide +kernel
theorem dX7_tellTogether_44 : decode cX7_tellTogether 44 = .ok (.aload_n 0, 1) := by decide +kernel
theorem dX7_tellTogether_45 : decode cX7_tellTogether 45 = .ok (.getfield 9, 3) := by decide +kernel
theorem dX7_tellTogether_48 : decode cX7_tellTogether 48 = .ok (.iload 6, 2) := by decide +kernel
theorem dX7_tellTogether_50 : decode cX7_tellTogether 50 = .ok (.iaload, 1) := by decide +kernel
theorem dX7_tellTogether_51 : decode cX7_tellTogether 51 = .ok (.iadd, 1) := by decide +kernel
theorem dX7_tellTogether_52 : decode cX7_tellTogether 52 = .ok (.istore_n 3, 1) := by decide +kernel
theorem dX7_tellTogether_53 : decode cX7_tellTogether 53 = .ok (.iload 4, 2) := by decide +kernel
theorem dX7_tellTogether_55 : decode cX7_tellTogether 55 = .ok (.aload_n 0, 1) := by decide +kernel
theorem dX7_tellTogether_56 : decode cX7_tellTogether 56 = .ok (.getfield 9, 3) := by decide +kernel
theorem dX7_tellTogether_59 : decode cX7_tellTogether 59 = .ok (.iload 6, 2) := by decide +kernel
theorem dX7_tellTogether_61 : decode cX7_tellTogether 61 = .ok (.iaload, 1) := by decide +kernel
theorem dX7_tellTogether_62 : decode cX7_tellTogether 62 = .ok (.invokestatic 23, 3) := by decide +kernel
theorem dX7_tellTogether_65 : decode cX7_tellTogether 65 = .ok (.istore 4, 2) := by decide +kernel
theorem dX7_tellTogether_67 : decode cX7_tellTogether 67 = .ok (.iload 5, 2) := by decide +kernel
theorem dX7_tellTogether_69 : decode cX7_tellTogether 69 = .ok (.aload_n 0, 1) := by decide +kernel
theorem dX7_tellTogether_70 : decode cX7_tellTogether 70 = .ok (.getfield 9, 3) := by decide +kernel
theorem dX7_tellTogether_73 : decode cX7_tellTogether 73 = .ok (.iload 6, 2) := by decide +kernel
theorem dX7_tellTogether_75 : decode cX7_tellTogether 75 = .ok (.iaload, 1) := by decide +kernel
theorem dX7_tellTogether_76 : decode cX7_tellTogether 76 = .ok (.invokestatic 29, 3) := by decide +kernel
theorem dX7_tellTogether_79 : decode cX7_tellTogether 79 = .ok (.istore 5, 2) := by decide +kernel
theorem dX7_tellTogether_81 : decode cX7_tellTogether 81 = .ok (.iinc 6 1, 3) := by decide +kernel
theorem dX7_tellTogether_84 : decode cX7_tellTogether 84 = .ok (.goto (-61), 3) := by decide +kernel
theorem dX7_tellTogether_87 : decode cX7_tellTogether 87 = .ok (.iload_n 2, 1) := by decide +kernel
theorem dX7_tellTogether_88 : decode cX7_tellTogether 88 = .ok (.iconst 3, 1) := by decide +kernel
theorem dX7_tellTogether_89 : decode cX7_tellTogether 89 = .ok (.if_icmp .ne 11, 3) := by decide +kernel
theorem dX7_tellTogether_92 : decode cX7_tellTogether 92 = .ok (.iload_n 3, 1) := by decide +kernel
theorem dX7_tellTogether_93 : decode cX7_tellTogether 93 = .ok (.iload 4, 2) := by decide +kernel
theorem dX7_tellTogether_95 : decode cX7_tellTogether 95 = .ok (.isub, 1) := by decide +kernel
theorem dX7_tellTogether_96 : decode cX7_tellTogether 96 = .ok (.iload 5, 2) := by decide +kernel
theorem dX7_tellTogether_98 : decode cX7_tellTogether 98 = .ok (.isub, 1) := by decide +kernel
theorem dX7_tellTogether_99 : decode cX7_tellTogether 99 = .ok (.ireturn, 1) := by decide +kernel
theorem dX7_tellTogether_100 : decode cX7_tellTogether 100 = .ok (.iload_n 2, 1) := by decide +kernel
theorem dX7_tellTogether_101 : decode cX7_tellTogether 101 = .ok (.iconst 2, 1) := by decide +kernel
theorem dX7_tellTogether_102 : decode cX7_tellTogether 102 = .ok (.if_icmp .ne 9, 3) := by decide +kernel
theorem dX7_tellTogether_105 : decode cX7_tellTogether 105 = .ok (.iload_n 3, 1) := by decide +kernel
theorem dX7_tellTogether_106 : decode cX7_tellTogether 106 = .ok (.iconst 2, 1) := by decide +kernel
theorem dX7_tellTogether_107 : decode cX7_tellTogether 107 = .ok (.idiv, 1) := by decide +kernel
theorem dX7_tellTogether_108 : decode cX7_tellTogether 108 = .ok (.goto 4, 3) := by decide +kernel
theorem dX7_tellTogether_111 : decode cX7_tellTogether 111 = .ok (.iload_n 3, 1) := by decide +kernel
theorem dX7_tellTogether_112 : decode cX7_tellTogether 112 = .ok (.ireturn, 1) := by decide +kernel
theorem dX8_init_0 : decode cX8_init 0 = .ok (.aload_n 0, 1) := by decide +kernel
theorem dX8_init_1 : decode cX8_init 1 = .ok (.invokespecial 3, 3) := by decide +kernel
theorem dX8_init_4 : decode cX8_init 4 = .ok (.aload_n 0, 1) := by decide +kernel
theorem dX8_init_5 : decode cX8_init 5 = .ok (.bipush 16, 2) := by decide +kernel
theorem dX8_init_7 : decode cX8_init 7 = .ok (.newarray .int, 2) := by decide +kernel
theorem dX8_init_9 : decode cX8_init 9 = .ok (.putfield 9, 3) := by decide +kernel
theorem dX8_init_12 : decode cX8_init 12 = .ok (.aload_n 0, 1) := by decide +kernel
theorem dX8_init_13 : decode cX8_init 13 = .ok (.bipush 16, 2) := by decide +kernel
theorem dX8_init_15 : decode cX8_init 15 = .ok (.newarray .int, 2) := by decide +kernel
theorem dX8_init_17 : decode cX8_init 17 = .ok (.putfield 15, 3) := by decide +kernel
theorem dX8_init_20 : decode cX8_init 20 = .ok (.aload_n 0, 1) := by decide +kernel
theorem dX8_init_21 : decode cX8_init 21 = .ok (.bipush 16, 2) := by decide +kernel
theorem dX8_init_23 : decode cX8_init 23 = .ok (.newarray .int, 2) := by decide +kernel
theorem dX8_init_25 : decode cX8_init 25 = .ok (.putfield 18, 3) := by decide +kernel
theorem dX8_init_28 : decode cX8_init 28 = .ok (.aload_n 0, 1) := by decide +kernel
theorem dX8_init_29 : decode cX8_init 29 = .ok (.bipush 16, 2) := by decide +kernel
theorem dX8_init_31 : decode cX8_init 31 = .ok (.newarray .int, 2) := by decide +kernel
theorem dX8_init_33 : decode cX8_init 33 = .ok (.putfield 21, 3) := by decide +kernel
theorem dX8_init_36 : decode cX8_init 36 = .ok (.aload_n 0, 1) := by decide +kernel
theorem dX8_init_37 : decode cX8_init 37 = .ok (.bipush 16, 2) := by decide +kernel
theorem dX8_init_39 : decode cX8_init 39 = .ok (.newarray .char, 2) := by decide +kernel
theorem dX8_init_41 : decode cX8_init 41 = .ok (.putfield 24, 3) := by decide +kernel
theorem dX8_init_44 : decode cX8_init 44 = .ok (.return_, 1) := by decide +kernel
theorem dX8_append_0 : decode cX8_append 0 = .ok (.aload_n 0, 1) := by decide +kernel
theorem dX8_append_1 : decode cX8_append 1 = .ok (.getfield 28, 3) := by decide +kernel
theorem dX8_append_4 : decode cX8_append 4 = .ok (.istore_n 3, 1) := by decide +kernel
theorem dX8_append_5 : decode cX8_append 5 = .ok (.aload_n 0, 1) := by decide +kernel
theorem dX8_append_6 : decode cX8_append 6 = .ok (.getfield 9, 3) := by decide +kernel
theorem dX8_append_9 : decode cX8_append 9 = .ok (.iload_n 3, 1) := by decide +kernel
theorem dX8_append_10 : decode cX8_append 10 = .ok (.iload_n 1, 1) := by decide +kernel
theorem dX8_append_11 : decode cX8_append 11 = .ok (.iastore, 1) := by decide +kernel
theorem dX8_append_12 : decode cX8_append 12 = .ok (.aload_n 0, 1) := by decide +kernel
theorem dX8_append_13 : decode cX8_append 13 = .ok (.getfield 15, 3) := by decide +kernel
theorem dX8_append_16 : decode cX8_append 16 = .ok (.iload_n 3, 1) := by decide +kernel
theorem dX8_append_17 : decode cX8_append 17 = .ok (.iload_n 2, 1) := by decide +kernel
theorem dX8_append_18 : decode cX8_append 18 = .ok (.iastore, 1) := by decide +kernel
theorem dX8_append_19 : decode cX8_append 19 = .ok (.aload_n 0, 1) := by decide +kernel
theorem dX8_append_20 : decode cX8_append 20 = .ok (.getfield 24, 3) := by decide +kernel
theorem dX8_append_23 : decode cX8_append 23 = .ok (.iload_n 3, 1) := by decide +kernel
theorem dX8_append_24 : decode cX8_append 24 = .ok (.bipush 45, 2) := by decide +kernel
theorem dX8_append_26 : decode cX8_append 26 = .ok (.castore, 1) := by decide +kernel
theorem dX8_append_27 : decode cX8_append 27 = .ok (.aload_n 0, 1) := by decide +kernel
theorem dX8_append_28 : decode cX8_append 28 = .ok (.dup, 1) := by decide +kernel
theorem dX8_append_29 : decode cX8_append 29 = .ok (.getfield 28, 3) := by decide +kernel
theorem dX8_append_32 : decode cX8_append 32 = .ok (.iconst 1, 1) := by decide +kernel
theorem dX8_append_33 : decode cX8_append 33 = .ok (.iadd, 1) := by decide +kernel
theorem dX8_append_34 : decode cX8_append 34 = .ok (.putfield 28, 3) := by decide +kernel
theorem dX8_append_37 : decode cX8_append 37 = .ok (.iload_n 3, 1) := by decide +kernel
theorem dX8_append_38 : decode cX8_append 38 = .ok (.ireturn, 1) := by decide +kernel
theorem dX8_putBehind_0 : decode cX8_putBehind 0 = .ok (.aload_n 0, 1) := by decide +kernel
theorem dX8_putBehind_1 : decode cX8_putBehind 1 = .ok (.getfield 21, 3) := by decide +kernel
theorem dX8_putBehind_4 : decode cX8_putBehind 4 = .ok (.iload_n 1, 1) := by decide +kernel
theorem dX8_putBehind_5 : decode cX8_putBehind 5 = .ok (.dup2, 1) := by decide +kernel
theorem dX8_putBehind_6 : decode cX8_putBehind 6 = .ok (.iaload, 1) := by decide +kernel
theorem dX8_putBehind_7 : decode cX8_putBehind 7 = .ok (.iconst 1, 1) := by decide +kernel
theorem dX8_putBehind_8 : decode cX8_putBehind 8 = .ok (.iload_n 2, 1) := by decide +kernel
theorem dX8_putBehind_9 : decode cX8_putBehind 9 = .ok (.ishl, 1) := by decide +kernel
theorem dX8_putBehind_10 : decode cX8_putBehind 10 = .ok (.ior, 1) := by decide +kernel
theorem dX8_putBehind_11 : decode cX8_putBehind 11 = .ok (.iastore, 1) := by decide +kernel
theorem dX8_putBehind_12 : decode cX8_putBehind 12 = .ok (.aload_n 0, 1) := by decide +kernel
theorem dX8_putBehind_13 : decode cX8_putBehind 13 = .ok (.getfield 21, 3) := by decide +kernel
theorem dX8_putBehind_16 : decode cX8_putBehind 16 = .ok (.iload_n 1, 1) := by decide +kernel
theorem dX8_putBehind_17 : decode cX8_putBehind 17 = .ok (.iaload, 1) := by decide +kernel
theorem dX8_putBehind_18 : decode cX8_putBehind 18 = .ok (.invokestatic 32, 3) := by decide +kernel
theorem dX8_putBehind_21 : decode cX8_putBehind 21 = .ok (.ireturn, 1) := by decide +kernel
theorem dX8_haveAll_0 : decode cX8_haveAll 0 = .ok (.iload_n 1, 1) := by decide +kernel
theorem dX8_haveAll_1 : decode cX8_haveAll 1 = .ok (.aload_n 0, 1) := by decide +kernel
theorem dX8_haveAll_2 : decode cX8_haveAll 2 = .ok (.getfield 28, 3) := by decide +kernel
theorem dX8_haveAll_5 : decode cX8_haveAll 5 = .ok (.iushr, 1) := by decide +kernel
theorem dX8_haveAll_6 : decode cX8_haveAll 6 = .ok (.ifCond .ne 7, 3) := by decide +kernel
theorem dX8_haveAll_9 : decode cX8_haveAll 9 = .ok (.iconst 1, 1) := by decide +kernel
theorem dX8_haveAll_10 : decode cX8_haveAll 10 = .ok (.goto 4, 3) := by decide +kernel
theorem dX8_haveAll_13 : decode cX8_haveAll 13 = .ok (.iconst 0, 1) := by decide +kernel
theorem dX8_haveAll_14 : decode cX8_haveAll 14 = .ok (.ireturn, 1) := by decide +kernel
theorem dX8_areDone_0 : decode cX8_areDone 0 = .ok (.iload_n 1, 1) := by decide +kernel
theorem dX8_areDone_1 : decode cX8_areDone 1 = .ok (.aload_n 0, 1) := by decide +kernel
theorem dX8_areDone_2 : decode cX8_areDone 2 = .ok (.invokevirtual 38, 3) := by decide +kernel
theorem dX8_areDone_5 : decode cX8_areDone 5 = .ok (.iconst (-1), 1) := by decide +kernel
theorem dX8_areDone_6 : decode cX8_areDone 6 = .ok (.ixor, 1) := by decide +kernel
theorem dX8_areDone_7 : decode cX8_areDone 7 = .ok (.iand, 1) := by decide +kernel
theorem dX8_areDone_8 : decode cX8_areDone 8 = .ok (.ifCond .ne 7, 3) := by decide +kernel
theorem dX8_areDone_11 : decode cX8_areDone 11 = .ok (.iconst 1, 1) := by decide +kernel
theorem dX8_areDone_12 : decode cX8_areDone 12 = .ok (.goto 4, 3) := by decide +kernel
theorem dX8_areDone_15 : decode cX8_areDone 15 = .ok (.iconst 0, 1) := by decide +kernel
theorem dX8_areDone_16 : decode cX8_areDone 16 = .ok (.ireturn, 1) := by decide +kernel
theorem dX8_doneOnes_0 : decode cX8_doneOnes 0 = .ok (.iconst 0, 1) := by decide +kernel
theorem dX8_doneOnes_1 : decode cX8_doneOnes 1 = .ok (.istore_n 1, 1) := by decide +kernel
theorem dX8_doneOnes_2 : decode cX8_doneOnes 2 = .ok (.iconst 0, 1) := by decide +kernel
theorem dX8_doneOnes_3 : decode cX8_doneOnes 3 = .ok (.istore_n 2, 1) := by decide +kernel
theorem dX8_doneOnes_4 : decode cX8_doneOnes 4 = .ok (.iload_n 2, 1) := by decide +kernel
theorem dX8_doneOnes_5 : decode cX8_doneOnes 5 = .ok (.aload_n 0, 1) := by decide +kernel
theorem dX8_doneOnes_6 : decode cX8_doneOnes 6 = .ok (.getfield 28, 3) := by decide +kernel
theorem dX8_doneOnes_9 : decode cX8_doneOnes 9 = .ok (.if_icmp .ge 30, 3) := by decide +kernel
theorem dX8_doneOnes_12 : decode cX8_doneOnes 12 = .ok (.iload_n 1, 1) := by decide +kernel
theorem dX8_doneOnes_13 : decode cX8_doneOnes 13 = .ok (.aload_n 0, 1) := by decide +kernel
theorem dX8_doneOnes_14 : decode cX8_doneOnes 14 = .ok (.getfield 24, 3) := by decide +kernel
theorem dX8_doneOnes_17 : decode cX8_doneOnes 17 = .ok (.iload_n 2, 1) := by decide +kernel
theorem dX8_doneOnes_18 : decode cX8_doneOnes 18 = .ok (.caload, 1) := by decide +kernel
theorem dX8_doneOnes_19 : decode cX8_doneOnes 19 = .ok (.bipush 101, 2) := by decide +kernel
theorem dX8_doneOnes_21 : decode cX8_doneOnes 21 = .ok (.if_icmp .ne 9, 3) := by decide +kernel
theorem dX8_doneOnes_24 : decode cX8_doneOnes 24 = .ok (.iconst 1, 1) := by decide +kernel
theorem dX8_doneOnes_25 : decode cX8_doneOnes 25 = .ok (.iload_n 2, 1) := by decide +kernel
theorem dX8_doneOnes_26 : decode cX8_doneOnes 26 = .ok (.ishl, 1) := by decide +kernel
theorem dX8_doneOnes_27 : decode cX8_doneOnes 27 = .ok (.goto 4, 3) := by decide +kernel
theorem dX8_doneOnes_30 : decode cX8_doneOnes 30 = .ok (.iconst 0, 1) := by decide +kernel
theorem dX8_doneOnes_31 : decode cX8_doneOnes 31 = .ok (.ior, 1) := by decide +kernel
theorem dX8_doneOnes_32 : decode cX8_doneOnes 32 = .ok (.istore_n 1, 1) := by decide +kernel
theorem dX8_doneOnes_33 : decode cX8_doneOnes 33 = .ok (.iinc 2 1, 3) := by decide +kernel
theorem dX8_doneOnes_36 : decode cX8_doneOnes 36 = .ok (.goto (-32), 3) := by decide +kernel
theorem dX8_doneOnes_39 : decode cX8_doneOnes 39 = .ok (.iload_n 1, 1) := by decide +kernel
theorem dX8_doneOnes_40 : decode cX8_doneOnes 40 = .ok (.ireturn, 1) := by decide +kernel
theorem dX8_startAgain_0 : decode cX8_startAgain 0 = .ok (.iconst 0, 1) := by decide +kernel
theorem dX8_startAgain_1 : decode cX8_startAgain 1 = .ok (.istore_n 1, 1) := by decide +kernel
theorem dX8_startAgain_2 : decode cX8_startAgain 2 = .ok (.iload_n 1, 1) := by decide +kernel
theorem dX8_startAgain_3 : decode cX8_startAgain 3 = .ok (.aload_n 0, 1) := by decide +kernel
theorem dX8_startAgain_4 : decode cX8_startAgain 4 = .ok (.getfield 28, 3) := by decide +kernel
theorem dX8_startAgain_7 : decode cX8_startAgain 7 = .ok (.if_icmp .ge 17, 3) := by decide +kernel
theorem dX8_startAgain_10 : decode cX8_startAgain 10 = .ok (.aload_n 0, 1) := by decide +kernel
theorem dX8_startAgain_11 : decode cX8_startAgain 11 = .ok (.getfield 24, 3) := by decide +kernel
theorem dX8_startAgain_14 : decode cX8_startAgain 14 = .ok (.iload_n 1, 1) := by decide +kernel
theorem dX8_startAgain_15 : decode cX8_startAgain 15 = .ok (.bipush 45, 2) := by decide +kernel
theorem dX8_startAgain_17 : decode cX8_startAgain 17 = .ok (.castore, 1) := by decide +kernel
theorem dX8_startAgain_18 : decode cX8_startAgain 18 = .ok (.iinc 1 1, 3) := by decide +kernel
theorem dX8_startAgain_21 : decode cX8_startAgain 21 = .ok (.goto (-19), 3) := by decide +kernel
theorem dX8_startAgain_24 : decode cX8_startAgain 24 = .ok (.return_, 1) := by decide +kernel
theorem dX8_undoFrom_0 : decode cX8_undoFrom 0 = .ok (.iconst 0, 1) := by decide +kernel
theorem dX8_undoFrom_1 : decode cX8_undoFrom 1 = .ok (.istore_n 2, 1) := by decide +kernel
theorem dX8_undoFrom_2 : decode cX8_undoFrom 2 = .ok (.iconst 0, 1) := by decide +kernel
theorem dX8_undoFrom_3 : decode cX8_undoFrom 3 = .ok (.istore_n 3, 1) := by decide +kernel
theorem dX8_undoFrom_4 : decode cX8_undoFrom 4 = .ok (.iload_n 3, 1) := by decide +kernel
theorem dX8_undoFrom_5 : decode cX8_undoFrom 5 = .ok (.aload_n 0, 1) := by decide +kernel
theorem dX8_undoFrom_6 : decode cX8_undoFrom 6 = .ok (.getfield 28, 3) := by decide +kernel
theorem dX8_undoFrom_9 : decode cX8_undoFrom 9 = .ok (.if_icmp .ge 41, 3) := by decide +kernel
theorem dX8_undoFrom_12 : decode cX8_undoFrom 12 = .ok (.aload_n 0, 1) := by decide +kernel
theorem dX8_undoFrom_13 : decode cX8_undoFrom 13 = .ok (.getfield 9, 3) := by decide +kernel
theorem dX8_undoFrom_16 : decode cX8_undoFrom 16 = .ok (.iload_n 3, 1) := by decide +kernel
theorem dX8_undoFrom_17 : decode cX8_undoFrom 17 = .ok (.iaload, 1) := by decide +kernel
theorem dX8_undoFrom_18 : decode cX8_undoFrom 18 = .ok (.iload_n 1, 1) := by decide +kernel
theorem dX8_undoFrom_19 : decode cX8_undoFrom 19 = .ok (.if_icmp .lt 25, 3) := by decide +kernel
theorem dX8_undoFrom_22 : decode cX8_undoFrom 22 = .ok (.aload_n 0, 1) := by decide +kernel
theorem dX8_undoFrom_23 : decode cX8_undoFrom 23 = .ok (.getfield 24, 3) := by decide +kernel
theorem dX8_undoFrom_26 : decode cX8_undoFrom 26 = .ok (.iload_n 3, 1) := by decide +kernel
theorem dX8_undoFrom_27 : decode cX8_undoFrom 27 = .ok (.caload, 1) := by decide +kernel
theorem dX8_undoFrom_28 : decode cX8_undoFrom 28 = .ok (.bipush 45, 2) := by decide +kernel
theorem dX8_undoFrom_30 : decode cX8_undoFrom 30 = .ok (.if_icmp .eq 14, 3) := by decide +kernel
theorem dX8_undoFrom_33 : decode cX8_undoFrom 33 = .ok (.aload_n 0, 1) := by decide +kernel
theorem dX8_undoFrom_34 : decode cX8_undoFrom 34 = .ok (.getfield 24, 3) := by decide +kernel
theorem dX8_undoFrom_37 : decode cX8_undoFrom 37 = .ok (.iload_n 3, 1) := by decide +kernel
theorem dX8_undoFrom_38 : decode cX8_undoFrom 38 = .ok (.bipush 45, 2) := by decide +kernel
theorem dX8_undoFrom_40 : decode cX8_undoFrom 40 = .ok (.castore, 1) := by decide +kernel
theorem dX8_undoFrom_41 : decode cX8_undoFrom 41 = .ok (.iinc 2 1, 3) := by decide +kernel
theorem dX8_undoFrom_44 : decode cX8_undoFrom 44 = .ok (.iinc 3 1, 3) := by decide +kernel
theorem dX8_undoFrom_47 : decode cX8_undoFrom 47 = .ok (.goto (-43), 3) := by decide +kernel
theorem dX8_undoFrom_50 : decode cX8_undoFrom 50 = .ok (.iload_n 2, 1) := by decide +kernel
theorem dX8_undoFrom_51 : decode cX8_undoFrom 51 = .ok (.ireturn, 1) := by decide +kernel
theorem dX8_work_0 : decode cX8_work 0 = .ok (.iconst 0, 1) := by decide +kernel
theorem dX8_work_1 : decode cX8_work 1 = .ok (.istore_n 2, 1) := by decide +kernel
theorem dX8_work_2 : decode cX8_work 2 = .ok (.iload_n 2, 1) := by decide +kernel
theorem dX8_work_3 : decode cX8_work 3 = .ok (.aload_n 0, 1) := by decide +kernel
theorem dX8_work_4 : decode cX8_work 4 = .ok (.getfield 28, 3) := by decide +kernel
theorem dX8_work_7 : decode cX8_work 7 = .ok (.if_icmp .ge 52, 3) := by decide +kernel
theorem dX8_work_10 : decode cX8_work 10 = .ok (.aload_n 0, 1) := by decide +kernel
theorem dX8_work_11 : decode cX8_work 11 = .ok (.getfield 24, 3) := by decide +kernel
theorem dX8_work_14 : decode cX8_work 14 = .ok (.iload_n 2, 1) := by decide +kernel
theorem dX8_work_15 : decode cX8_work 15 = .ok (.caload, 1) := by decide +kernel
theorem dX8_work_16 : decode cX8_work 16 = .ok (.bipush 114, 2) := by decide +kernel
theorem dX8_work_18 : decode cX8_work 18 = .ok (.if_icmp .ne 35, 3) := by decide +kernel
theorem dX8_work_21 : decode cX8_work 21 = .ok (.aload_n 0, 1) := by decide +kernel
theorem dX8_work_22 : decode cX8_work 22 = .ok (.getfield 18, 3) := by decide +kernel
theorem dX8_work_25 : decode cX8_work 25 = .ok (.iload_n 2, 1) := by decide +kernel
theorem dX8_work_26 : decode cX8_work 26 = .ok (.dup2, 1) := by decide +kernel
theorem dX8_work_27 : decode cX8_work 27 = .ok (.iaload, 1) := by decide +kernel
theorem dX8_work_28 : decode cX8_work 28 = .ok (.iconst 1, 1) := by decide +kernel
theorem dX8_work_29 : decode cX8_work 29 = .ok (.isub, 1) := by decide +kernel
theorem dX8_work_30 : decode cX8_work 30 = .ok (.iastore, 1) := by decide +kernel
theorem dX8_work_31 : decode cX8_work 31 = .ok (.aload_n 0, 1) := by decide +kernel
theorem dX8_work_32 : decode cX8_work 32 = .ok (.getfield 24, 3) := by decide +kernel
theorem dX8_work_35 : decode cX8_work 35 = .ok (.iload_n 2, 1) := by decide +kernel
theorem dX8_work_36 : decode cX8_work 36 = .ok (.aload_n 0, 1) := by decide +kernel
theorem dX8_work_37 : decode cX8_work 37 = .ok (.getfield 18, 3) := by decide +kernel
theorem dX8_work_40 : decode cX8_work 40 = .ok (.iload_n 2, 1) := by decide +kernel
theorem dX8_work_41 : decode cX8_work 41 = .ok (.iaload, 1) := by decide +kernel
theorem dX8_work_42 : decode cX8_work 42 = .ok (.ifCond .le 8, 3) := by decide +kernel
theorem dX8_work_45 : decode cX8_work 45 = .ok (.bipush 114, 2) := by decide +kernel
theorem dX8_work_47 : decode cX8_work 47 = .ok (.goto 5, 3) := by decide +kernel
theorem dX8_work_50 : decode cX8_work 50 = .ok (.bipush 101, 2) := by decide +kernel
theorem dX8_work_52 : decode cX8_work 52 = .ok (.castore, 1) := by decide +kernel
theorem dX8_work_53 : decode cX8_work 53 = .ok (.iinc 2 1, 3) := by decide +kernel
theorem dX8_work_56 : decode cX8_work 56 = .ok (.goto (-54), 3) := by decide +kernel
theorem dX8_work_59 : decode cX8_work 59 = .ok (.aload_n 0, 1) := by decide +kernel
theorem dX8_work_60 : decode cX8_work 60 = .ok (.invokevirtual 38, 3) := by decide +kernel
theorem dX8_work_63 : decode cX8_work 63 = .ok (.istore_n 2, 1) := by decide +kernel
theorem dX8_work_64 : decode cX8_work 64 = .ok (.iconst 0, 1) := by decide +kernel
theorem dX8_work_65 : decode cX8_work 65 = .ok (.istore_n 3, 1) := by decide +kernel
theorem dX8_work_66 : decode cX8_work 66 = .ok (.iload_n 3, 1) := by decide +kernel
theorem dX8_work_67 : decode cX8_work 67 = .ok (.aload_n 0, 1) := by decide +kernel
theorem dX8_work_68 : decode cX8_work 68 = .ok (.getfield 28, 3) := by decide +kernel
theorem dX8_work_71 : decode cX8_work 71 = .ok (.if_icmp .ge 63, 3) := by decide +kernel
theorem dX8_work_74 : decode cX8_work 74 = .ok (.aload_n 0, 1) := by decide +kernel
theorem dX8_work_75 : decode cX8_work 75 = .ok (.getfield 24, 3) := by decide +kernel
theorem dX8_work_78 : decode cX8_work 78 = .ok (.iload_n 3, 1) := by decide +kernel
theorem dX8_work_79 : decode cX8_work 79 = .ok (.caload, 1) := by decide +kernel
theorem dX8_work_80 : decode cX8_work 80 = .ok (.bipush 45, 2) := by decide +kernel
theorem dX8_work_82 : decode cX8_work 82 = .ok (.if_icmp .ne 46, 3) := by decide +kernel
theorem dX8_work_85 : decode cX8_work 85 = .ok (.aload_n 0, 1) := by decide +kernel
theorem dX8_work_86 : decode cX8_work 86 = .ok (.getfield 9, 3) := by decide +kernel
theorem dX8_work_89 : decode cX8_work 89 = .ok (.iload_n 3, 1) := by decide +kernel
theorem dX8_work_90 : decode cX8_work 90 = .ok (.iaload, 1) := by decide +kernel
theorem dX8_work_91 : decode cX8_work 91 = .ok (.iload_n 1, 1) := by decide +kernel
theorem dX8_work_92 : decode cX8_work 92 = .ok (.if_icmp .gt 36, 3) := by decide +kernel
theorem dX8_work_95 : decode cX8_work 95 = .ok (.aload_n 0, 1) := by decide +kernel
theorem dX8_work_96 : decode cX8_work 96 = .ok (.getfield 21, 3) := by decide +kernel
theorem dX8_work_99 : decode cX8_work 99 = .ok (.iload_n 3, 1) := by decide +kernel
theorem dX8_work_100 : decode cX8_work 100 = .ok (.iaload, 1) := by decide +kernel
theorem dX8_work_101 : decode cX8_work 101 = .ok (.iload_n 2, 1) := by decide +kernel
theorem dX8_work_102 : decode cX8_work 102 = .ok (.iconst (-1), 1) := by decide +kernel
theorem dX8_work_103 : decode cX8_work 103 = .ok (.ixor, 1) := by decide +kernel
theorem dX8_work_104 : decode cX8_work 104 = .ok (.iand, 1) := by decide +kernel
theorem dX8_work_105 : decode cX8_work 105 = .ok (.ifCond .ne 23, 3) := by decide +kernel
theorem dX8_work_108 : decode cX8_work 108 = .ok (.aload_n 0, 1) := by decide +kernel
theorem dX8_work_109 : decode cX8_work 109 = .ok (.getfield 24, 3) := by decide +kernel
theorem dX8_work_112 : decode cX8_work 112 = .ok (.iload_n 3, 1) := by decide +kernel
theorem dX8_work_113 : decode cX8_work 113 = .ok (.bipush 114, 2) := by decide +kernel
theorem dX8_work_115 : decode cX8_work 115 = .ok (.castore, 1) := by decide +kernel
theorem dX8_work_116 : decode cX8_work 116 = .ok (.aload_n 0, 1) := by decide +kernel
theorem dX8_work_117 : decode cX8_work 117 = .ok (.getfield 18, 3) := by decide +kernel
theorem dX8_work_120 : decode cX8_work 120 = .ok (.iload_n 3, 1) := by decide +kernel
theorem dX8_work_121 : decode cX8_work 121 = .ok (.aload_n 0, 1) := by decide +kernel
theorem dX8_work_122 : decode cX8_work 122 = .ok (.getfield 15, 3) := by decide +kernel
theorem dX8_work_125 : decode cX8_work 125 = .ok (.iload_n 3, 1) := by decide +kernel
theorem dX8_work_126 : decode cX8_work 126 = .ok (.iaload, 1) := by decide +kernel
theorem dX8_work_127 : decode cX8_work 127 = .ok (.iastore, 1) := by decide +kernel
theorem dX8_work_128 : decode cX8_work 128 = .ok (.iinc 3 1, 3) := by decide +kernel
theorem dX8_work_131 : decode cX8_work 131 = .ok (.goto (-65), 3) := by decide +kernel
theorem dX8_work_134 : decode cX8_work 134 = .ok (.return_, 1) := by decide +kernel
theorem dX9_init_0 : decode cX9_init 0 = .ok (.aload_n 0, 1) := by decide +kernel
theorem dX9_init_1 : decode cX9_init 1 = .ok (.invokespecial 3, 3) := by decide +kernel
theorem dX9_init_4 : decode cX9_init 4 = .ok (.aload_n 0, 1) := by decide +kernel
theorem dX9_init_5 : decode cX9_init 5 = .ok (.iconst 3, 1) := by decide +kernel
theorem dX9_init_6 : decode cX9_init 6 = .ok (.newarray .int, 2) := by decide +kernel
theorem dX9_init_8 : decode cX9_init 8 = .ok (.putfield 9, 3) := by decide +kernel
theorem dX9_init_11 : decode cX9_init 11 = .ok (.aload_n 0, 1) := by decide +kernel
theorem dX9_init_12 : decode cX9_init 12 = .ok (.iconst 3, 1) := by decide +kernel
theorem dX9_init_13 : decode cX9_init 13 = .ok (.newarray .int, 2) := by decide +kernel
theorem dX9_init_15 : decode cX9_init 15 = .ok (.putfield 15, 3) := by decide +kernel
theorem dX9_init_18 : decode cX9_init 18 = .ok (.aload_n 0, 1) := by decide +kernel
theorem dX9_init_19 : decode cX9_init 19 = .ok (.iconst 3, 1) := by decide +kernel
theorem dX9_init_20 : decode cX9_init 20 = .ok (.newarray .int, 2) := by decide +kernel
theorem dX9_init_22 : decode cX9_init 22 = .ok (.putfield 18, 3) := by decide +kernel
theorem dX9_init_25 : decode cX9_init 25 = .ok (.aload_n 0, 1) := by decide +kernel
theorem dX9_init_26 : decode cX9_init 26 = .ok (.iconst 3, 1) := by decide +kernel
theorem dX9_init_27 : decode cX9_init 27 = .ok (.newarray .int, 2) := by decide +kernel
theorem dX9_init_29 : decode cX9_init 29 = .ok (.putfield 21, 3) := by decide +kernel
theorem dX9_init_32 : decode cX9_init 32 = .ok (.aload_n 0, 1) := by decide +kernel
theorem dX9_init_33 : decode cX9_init 33 = .ok (.iconst 3, 1) := by decide +kernel
theorem dX9_init_34 : decode cX9_init 34 = .ok (.newarray .boolean, 2) := by decide +kernel
theorem dX9_init_36 : decode cX9_init 36 = .ok (.putfield 24, 3) := by decide +kernel
theorem dX9_init_39 : decode cX9_init 39 = .ok (.return_, 1) := by decide +kernel
theorem dX9_define_0 : decode cX9_define 0 = .ok (.aload_n 0, 1) := by decide +kernel
theorem dX9_define_1 : decode cX9_define 1 = .ok (.getfield 9, 3) := by decide +kernel
theorem dX9_define_4 : decode cX9_define 4 = .ok (.iload_n 1, 1) := by decide +kernel
theorem dX9_define_5 : decode cX9_define 5 = .ok (.iload_n 2, 1) := by decide +kernel
theorem dX9_define_6 : decode cX9_define 6 = .ok (.iastore, 1) := by decide +kernel
theorem dX9_define_7 : decode cX9_define 7 = .ok (.aload_n 0, 1) := by decide +kernel
theorem dX9_define_8 : decode cX9_define 8 = .ok (.getfield 15, 3) := by decide +kernel
theorem dX9_define_11 : decode cX9_define 11 = .ok (.iload_n 1, 1) := by decide +kernel
theorem dX9_define_12 : decode cX9_define 12 = .ok (.iload_n 3, 1) := by decide +kernel
theorem dX9_define_13 : decode cX9_define 13 = .ok (.iastore, 1) := by decide +kernel
theorem dX9_define_14 : decode cX9_define 14 = .ok (.aload_n 0, 1) := by decide +kernel
theorem dX9_define_15 : decode cX9_define 15 = .ok (.getfield 18, 3) := by decide +kernel
theorem dX9_define_18 : decode cX9_define 18 = .ok (.iload_n 1, 1) := by decide +kernel
theorem dX9_define_19 : decode cX9_define 19 = .ok (.iload 4, 2) := by decide +kernel
theorem dX9_define_21 : decode cX9_define 21 = .ok (.iastore, 1) := by decide +kernel
theorem dX9_define_22 : decode cX9_define 22 = .ok (.aload_n 0, 1) := by decide +kernel
theorem dX9_define_23 : decode cX9_define 23 = .ok (.getfield 21, 3) := by decide +kernel
theorem dX9_define_26 : decode cX9_define 26 = .ok (.iload_n 1, 1) := by decide +kernel
theorem dX9_define_27 : decode cX9_define 27 = .ok (.aload_n 0, 1) := by decide +kernel
theorem dX9_define_28 : decode cX9_define 28 = .ok (.getfield 21, 3) := by decide +kernel
theorem dX9_define_31 : decode cX9_define 31 = .ok (.iload_n 1, 1) := by decide +kernel
theorem dX9_define_32 : decode cX9_define 32 = .ok (.iaload, 1) := by decide +kernel
theorem dX9_define_33 : decode cX9_define 33 = .ok (.iload_n 2, 1) := by decide +kernel
theorem dX9_define_34 : decode cX9_define 34 = .ok (.invokestatic 28, 3) := by decide +kernel
theorem dX9_define_37 : decode cX9_define 37 = .ok (.iastore, 1) := by decide +kernel
theorem dX9_define_38 : decode cX9_define 38 = .ok (.aload_n 0, 1) := by decide +kernel
theorem dX9_define_39 : decode cX9_define 39 = .ok (.getfield 21, 3) := by decide +kernel
theorem dX9_define_42 : decode cX9_define 42 = .ok (.iload_n 1, 1) := by decide +kernel
theorem dX9_define_43 : decode cX9_define 43 = .ok (.iaload, 1) := by decide +kernel
theorem dX9_define_44 : decode cX9_define 44 = .ok (.ireturn, 1) := by decide +kernel
theorem dX9_takeOut_0 : decode cX9_takeOut 0 = .ok (.aload_n 0, 1) := by decide +kernel
theorem dX9_takeOut_1 : decode cX9_takeOut 1 = .ok (.getfield 21, 3) := by decide +kernel
theorem dX9_takeOut_4 : decode cX9_takeOut 4 = .ok (.iload_n 1, 1) := by decide +kernel
theorem dX9_takeOut_5 : decode cX9_takeOut 5 = .ok (.iaload, 1) := by decide +kernel
theorem dX9_takeOut_6 : decode cX9_takeOut 6 = .ok (.iload_n 2, 1) := by decide +kernel
theorem dX9_takeOut_7 : decode cX9_takeOut 7 = .ok (.invokestatic 28, 3) := by decide +kernel
theorem dX9_takeOut_10 : decode cX9_takeOut 10 = .ok (.istore_n 3, 1) := by decide +kernel
theorem dX9_takeOut_11 : decode cX9_takeOut 11 = .ok (.aload_n 0, 1) := by decide +kernel
theorem dX9_takeOut_12 : decode cX9_takeOut 12 = .ok (.getfield 21, 3) := by decide +kernel
theorem dX9_takeOut_15 : decode cX9_takeOut 15 = .ok (.iload_n 1, 1) := by decide +kernel
theorem dX9_takeOut_16 : decode cX9_takeOut 16 = .ok (.dup2, 1) := by decide +kernel
theorem dX9_takeOut_17 : decode cX9_takeOut 17 = .ok (.iaload, 1) := by decide +kernel
theorem dX9_takeOut_18 : decode cX9_takeOut 18 = .ok (.iload_n 3, 1) := by decide +kernel
theorem dX9_takeOut_19 : decode cX9_takeOut 19 = .ok (.isub, 1) := by decide +kernel
theorem dX9_takeOut_20 : decode cX9_takeOut 20 = .ok (.iastore, 1) := by decide +kernel
theorem dX9_takeOut_21 : decode cX9_takeOut 21 = .ok (.iload_n 3, 1) := by decide +kernel
theorem dX9_takeOut_22 : decode cX9_takeOut 22 = .ok (.ireturn, 1) := by decide +kernel
theorem dX9_boilAndFill_0 : decode cX9_boilAndFill 0 = .ok (.iconst 0, 1) := by decide +kernel
theorem dX9_boilAndFill_1 : decode cX9_boilAndFill 1 = .ok (.istore_n 1, 1) := by decide +kernel
theorem dX9_boilAndFill_2 : decode cX9_boilAndFill 2 = .ok (.iload_n 1, 1) := by decide +kernel
theorem dX9_boilAndFill_3 : decode cX9_boilAndFill 3 = .ok (.iconst 3, 1) := by decide +kernel
theorem dX9_boilAndFill_4 : decode cX9_boilAndFill 4 = .ok (.if_icmp .ge 72, 3) := by decide +kernel
theorem dX9_boilAndFill_7 : decode cX9_boilAndFill 7 = .ok (.aload_n 0, 1) := by decide +kernel
theorem dX9_boilAndFill_8 : decode cX9_boilAndFill 8 = .ok (.getfield 21, 3) := by decide +kernel
theorem dX9_boilAndFill_11 : decode cX9_boilAndFill 11 = .ok (.iload_n 1, 1) := by decide +kernel
theorem dX9_boilAndFill_12 : decode cX9_boilAndFill 12 = .ok (.dup2, 1) := by decide +kernel
theorem dX9_boilAndFill_13 : decode cX9_boilAndFill 13 = .ok (.iaload, 1) := by decide +kernel
theorem dX9_boilAndFill_14 : decode cX9_boilAndFill 14 = .ok (.aload_n 0, 1) := by decide +kernel
theorem dX9_boilAndFill_15 : decode cX9_boilAndFill 15 = .ok (.getfield 21, 3) := by decide +kernel
theorem dX9_boilAndFill_18 : decode cX9_boilAndFill 18 = .ok (.iload_n 1, 1) := by decide +kernel
theorem dX9_boilAndFill_19 : decode cX9_boilAndFill 19 = .ok (.iaload, 1) := by decide +kernel
theorem dX9_boilAndFill_20 : decode cX9_boilAndFill 20 = .ok (.aload_n 0, 1) := by decide +kernel
theorem dX9_boilAndFill_21 : decode cX9_boilAndFill 21 = .ok (.getfield 18, 3) := by decide +kernel
theorem dX9_boilAndFill_24 : decode cX9_boilAndFill 24 = .ok (.iload_n 1, 1) := by decide +kernel
theorem dX9_boilAndFill_25 : decode cX9_boilAndFill 25 = .ok (.iaload, 1) := by decide +kernel
theorem dX9_boilAndFill_26 : decode cX9_boilAndFill 26 = .ok (.imul, 1) := by decide +kernel
theorem dX9_boilAndFill_27 : decode cX9_boilAndFill 27 = .ok (.sipush 1000, 3) := by decide +kernel
theorem dX9_boilAndFill_30 : decode cX9_boilAndFill 30 = .ok (.idiv, 1) := by decide +kernel
theorem dX9_boilAndFill_31 : decode cX9_boilAndFill 31 = .ok (.isub, 1) := by decide +kernel
theorem dX9_boilAndFill_32 : decode cX9_boilAndFill 32 = .ok (.iastore, 1) := by decide +kernel
theorem dX9_boilAndFill_33 : decode cX9_boilAndFill 33 = .ok (.aload_n 0, 1) := by decide +kernel
theorem dX9_boilAndFill_34 : decode cX9_boilAndFill 34 = .ok (.getfield 24, 3) := by decide +kernel
theorem dX9_boilAndFill_37 : decode cX9_boilAndFill 37 = .ok (.iload_n 1, 1) := by decide +kernel
theorem dX9_boilAndFill_38 : decode cX9_boilAndFill 38 = .ok (.baload, 1) := by decide +kernel
theorem dX9_boilAndFill_39 : decode cX9_boilAndFill 39 = .ok (.ifCond .eq 31, 3) := by decide +kernel
theorem dX9_boilAndFill_42 : decode cX9_boilAndFill 42 = .ok (.aload_n 0, 1) := by decide +kernel
theorem dX9_boilAndFill_43 : decode cX9_boilAndFill 43 = .ok (.getfield 21, 3) := by decide +kernel
theorem dX9_boilAndFill_46 : decode cX9_boilAndFill 46 = .ok (.iload_n 1, 1) := by decide +kernel
theorem dX9_boilAndFill_47 : decode cX9_boilAndFill 47 = .ok (.aload_n 0, 1) := by decide +kernel
theorem dX9_boilAndFill_48 : decode cX9_boilAndFill 48 = .ok (.getfield 9, 3) := by decide +kernel
theorem dX9_boilAndFill_51 : decode cX9_boilAndFill 51 = .ok (.iload_n 1, 1) := by decide +kernel
theorem dX9_boilAndFill_52 : decode cX9_boilAndFill 52 = .ok (.iaload, 1) := by decide +kernel
theorem dX9_boilAndFill_53 : decode cX9_boilAndFill 53 = .ok (.aload_n 0, 1) := by decide +kernel
theorem dX9_boilAndFill_54 : decode cX9_boilAndFill 54 = .ok (.getfield 21, 3) := by decide +kernel
theorem dX9_boilAndFill_57 : decode cX9_boilAndFill 57 = .ok (.iload_n 1, 1) := by decide +kernel
theorem dX9_boilAndFill_58 : decode cX9_boilAndFill 58 = .ok (.iaload, 1) := by decide +kernel
theorem dX9_boilAndFill_59 : decode cX9_boilAndFill 59 = .ok (.aload_n 0, 1) := by decide +kernel
theorem dX9_boilAndFill_60 : decode cX9_boilAndFill 60 = .ok (.getfield 15, 3) := by decide +kernel
theorem dX9_boilAndFill_63 : decode cX9_boilAndFill 63 = .ok (.iload_n 1, 1) := by decide +kernel
theorem dX9_boilAndFill_64 : decode cX9_boilAndFill 64 = .ok (.iaload, 1) := by decide +kernel
theorem dX9_boilAndFill_65 : decode cX9_boilAndFill 65 = .ok (.iadd, 1) := by decide +kernel
theorem dX9_boilAndFill_66 : decode cX9_boilAndFill 66 = .ok (.invokestatic 28, 3) := by decide +kernel
theorem dX9_boilAndFill_69 : decode cX9_boilAndFill 69 = .ok (.iastore, 1) := by decide +kernel
theorem dX9_boilAndFill_70 : decode cX9_boilAndFill 70 = .ok (.iinc 1 1, 3) := by decide +kernel
theorem dX9_boilAndFill_73 : decode cX9_boilAndFill 73 = .ok (.goto (-71), 3) := by decide +kernel
theorem dX9_boilAndFill_76 : decode cX9_boilAndFill 76 = .ok (.return_, 1) := by decide +kernel
theorem dX9_countWithRoom_0 : decode cX9_countWithRoom 0 = .ok (.iconst 0, 1) := by decide +kernel
theorem dX9_countWithRoom_1 : decode cX9_countWithRoom 1 = .ok (.istore_n 1, 1) := by decide +kernel
theorem dX9_countWithRoom_2 : decode cX9_countWithRoom 2 = .ok (.iconst 0, 1) := by decide +kernel
theorem dX9_countWithRoom_3 : decode cX9_countWithRoom 3 = .ok (.istore_n 2, 1) := by decide +kernel
theorem dX9_countWithRoom_4 : decode cX9_countWithRoom 4 = .ok (.iload_n 2, 1) := by decide +kernel
theorem dX9_countWithRoom_5 : decode cX9_countWithRoom 5 = .ok (.iconst 3, 1) := by decide +kernel
theorem dX9_countWithRoom_6 : decode cX9_countWithRoom 6 = .ok (.if_icmp .ge 26, 3) := by decide +kernel
theorem dX9_countWithRoom_9 : decode cX9_countWithRoom 9 = .ok (.iload_n 1, 1) := by decide +kernel
theorem dX9_countWithRoom_10 : decode cX9_countWithRoom 10 = .ok (.aload_n 0, 1) := by decide +kernel
theorem dX9_countWithRoom_11 : decode cX9_countWithRoom 11 = .ok (.getfield 9, 3) := by decide +kernel
theorem dX9_countWithRoom_14 : decode cX9_countWithRoom 14 = .ok (.iload_n 2, 1) := by decide +kernel
theorem dX9_countWithRoom_15 : decode cX9_countWithRoom 15 = .ok (.iaload, 1) := by decide +kernel
theorem dX9_countWithRoom_16 : decode cX9_countWithRoom 16 = .ok (.ifCond .le 7, 3) := by decide +kernel
theorem dX9_countWithRoom_19 : decode cX9_countWithRoom 19 = .ok (.iconst 1, 1) := by decide +kernel
theorem dX9_countWithRoom_20 : decode cX9_countWithRoom 20 = .ok (.goto 4, 3) := by decide +kernel
theorem dX9_countWithRoom_23 : decode cX9_countWithRoom 23 = .ok (.iconst 0, 1) := by decide +kernel
theorem dX9_countWithRoom_24 : decode cX9_countWithRoom 24 = .ok (.iadd, 1) := by decide +kernel
theorem dX9_countWithRoom_25 : decode cX9_countWithRoom 25 = .ok (.istore_n 1, 1) := by decide +kernel
theorem dX9_countWithRoom_26 : decode cX9_countWithRoom 26 = .ok (.iinc 2 1, 3) := by decide +kernel
theorem dX9_countWithRoom_29 : decode cX9_countWithRoom 29 = .ok (.goto (-25), 3) := by decide +kernel
theorem dX9_countWithRoom_32 : decode cX9_countWithRoom 32 = .ok (.iload_n 1, 1) := by decide +kernel
theorem dX9_countWithRoom_33 : decode cX9_countWithRoom 33 = .ok (.ireturn, 1) := by decide +kernel
theorem dX9_sumOfShares_0 : decode cX9_sumOfShares 0 = .ok (.dconst 0, 1) := by decide +kernel
theorem dX9_sumOfShares_1 : decode cX9_sumOfShares 1 = .ok (.dstore_n 1, 1) := by decide +kernel
theorem dX9_sumOfShares_2 : decode cX9_sumOfShares 2 = .ok (.iconst 0, 1) := by decide +kernel
theorem dX9_sumOfShares_3 : decode cX9_sumOfShares 3 = .ok (.istore_n 3, 1) := by decide +kernel
theorem dX9_sumOfShares_4 : decode cX9_sumOfShares 4 = .ok (.iload_n 3, 1) := by decide +kernel
theorem dX9_sumOfShares_5 : decode cX9_sumOfShares 5 = .ok (.iconst 3, 1) := by decide +kernel
theorem dX9_sumOfShares_6 : decode cX9_sumOfShares 6 = .ok (.if_icmp .ge 36, 3) := by decide +kernel
theorem dX9_sumOfShares_9 : decode cX9_sumOfShares 9 = .ok (.aload_n 0, 1) := by decide +kernel
theorem dX9_sumOfShares_10 : decode cX9_sumOfShares 10 = .ok (.getfield 9, 3) := by decide +kernel
theorem dX9_sumOfShares_13 : decode cX9_sumOfShares 13 = .ok (.iload_n 3, 1) := by decide +kernel
theorem dX9_sumOfShares_14 : decode cX9_sumOfShares 14 = .ok (.iaload, 1) := by decide +kernel
theorem dX9_sumOfShares_15 : decode cX9_sumOfShares 15 = .ok (.ifCond .le 21, 3) := by decide +kernel
theorem dX9_sumOfShares_18 : decode cX9_sumOfShares 18 = .ok (.dload_n 1, 1) := by decide +kernel
theorem dX9_sumOfShares_19 : decode cX9_sumOfShares 19 = .ok (.aload_n 0, 1) := by decide +kernel
theorem dX9_sumOfShares_20 : decode cX9_sumOfShares 20 = .ok (.getfield 21, 3) := by decide +kernel
theorem dX9_sumOfShares_23 : decode cX9_sumOfShares 23 = .ok (.iload_n 3, 1) := by decide +kernel
theorem dX9_sumOfShares_24 : decode cX9_sumOfShares 24 = .ok (.iaload, 1) := by decide +kernel
theorem dX9_sumOfShares_25 : decode cX9_sumOfShares 25 = .ok (.i2d, 1) := by decide +kernel
theorem dX9_sumOfShares_26 : decode cX9_sumOfShares 26 = .ok (.aload_n 0, 1) := by decide +kernel
theorem dX9_sumOfShares_27 : decode cX9_sumOfShares 27 = .ok (.getfield 9, 3) := by decide +kernel
theorem dX9_sumOfShares_30 : decode cX9_sumOfShares 30 = .ok (.iload_n 3, 1) := by decide +kernel
theorem dX9_sumOfShares_31 : decode cX9_sumOfShares 31 = .ok (.iaload, 1) := by decide +kernel
theorem dX9_sumOfShares_32 : decode cX9_sumOfShares 32 = .ok (.i2d, 1) := by decide +kernel
theorem dX9_sumOfShares_33 : decode cX9_sumOfShares 33 = .ok (.ddiv, 1) := by decide +kernel
theorem dX9_sumOfShares_34 : decode cX9_sumOfShares 34 = .ok (.dadd, 1) := by decide +kernel
theorem dX9_sumOfShares_35 : decode cX9_sumOfShares 35 = .ok (.dstore_n 1, 1) := by decide +kernel
theorem dX9_sumOfShares_36 : decode cX9_sumOfShares 36 = .ok (.iinc 3 1, 3) := by decide +kernel
theorem dX9_sumOfShares_39 : decode cX9_sumOfShares 39 = .ok (.goto (-35), 3) := by decide +kernel
theorem dX9_sumOfShares_42 : decode cX9_sumOfShares 42 = .ok (.dload_n 1, 1) := by decide +kernel
theorem dX9_sumOfShares_43 : decode cX9_sumOfShares 43 = .ok (.dreturn, 1) := by decide +kernel
theorem dX9_areWithinRoom_0 : decode cX9_areWithinRoom 0 = .ok (.iconst 0, 1) := by decide +kernel
theorem dX9_areWithinRoom_1 : decode cX9_areWithinRoom 1 = .ok (.istore_n 1, 1) := by decide +kernel
theorem dX9_areWithinRoom_2 : decode cX9_areWithinRoom 2 = .ok (.iload_n 1, 1) := by decide +kernel
theorem dX9_areWithinRoom_3 : decode cX9_areWithinRoom 3 = .ok (.iconst 3, 1) := by decide +kernel
theorem dX9_areWithinRoom_4 : decode cX9_areWithinRoom 4 = .ok (.if_icmp .ge 26, 3) := by decide +kernel
theorem dX9_areWithinRoom_7 : decode cX9_areWithinRoom 7 = .ok (.aload_n 0, 1) := by decide +kernel
theorem dX9_areWithinRoom_8 : decode cX9_areWithinRoom 8 = .ok (.getfield 21, 3) := by decide +kernel
theorem dX9_areWithinRoom_11 : decode cX9_areWithinRoom 11 = .ok (.iload_n 1, 1) := by decide +kernel
theorem dX9_areWithinRoom_12 : decode cX9_areWithinRoom 12 = .ok (.iaload, 1) := by decide +kernel
theorem dX9_areWithinRoom_13 : decode cX9_areWithinRoom 13 = .ok (.aload_n 0, 1) := by decide +kernel
theorem dX9_areWithinRoom_14 : decode cX9_areWithinRoom 14 = .ok (.getfield 9, 3) := by decide +kernel
theorem dX9_areWithinRoom_17 : decode cX9_areWithinRoom 17 = .ok (.iload_n 1, 1) := by decide +kernel
theorem dX9_areWithinRoom_18 : decode cX9_areWithinRoom 18 = .ok (.iaload, 1) := by decide +kernel
theorem dX9_areWithinRoom_19 : decode cX9_areWithinRoom 19 = .ok (.if_icmp .le 5, 3) := by decide +kernel
theorem dX9_areWithinRoom_22 : decode cX9_areWithinRoom 22 = .ok (.iconst 0, 1) := by decide +kernel
theorem dX9_areWithinRoom_23 : decode cX9_areWithinRoom 23 = .ok (.ireturn, 1) := by decide +kernel
theorem dX9_areWithinRoom_24 : decode cX9_areWithinRoom 24 = .ok (.iinc 1 1, 3) := by decide +kernel
theorem dX9_areWithinRoom_27 : decode cX9_areWithinRoom 27 = .ok (.goto (-25), 3) := by decide +kernel
theorem dX9_areWithinRoom_30 : decode cX9_areWithinRoom 30 = .ok (.iconst 1, 1) := by decide +kernel
theorem dX9_areWithinRoom_31 : decode cX9_areWithinRoom 31 = .ok (.ireturn, 1) := by decide +kernel
theorem dX10_init_0 : decode cX10_init 0 = .ok (.aload_n 0, 1) := by decide +kernel
theorem dX10_init_1 : decode cX10_init 1 = .ok (.invokespecial 1, 3) := by decide +kernel
theorem dX10_init_4 : decode cX10_init 4 = .ok (.aload_n 0, 1) := by decide +kernel
theorem dX10_init_5 : decode cX10_init 5 = .ok (.new 7, 3) := by decide +kernel
theorem dX10_init_8 : decode cX10_init 8 = .ok (.dup, 1) := by decide +kernel
theorem dX10_init_9 : decode cX10_init 9 = .ok (.invokespecial 9, 3) := by decide +kernel
theorem dX10_init_12 : decode cX10_init 12 = .ok (.putfield 10, 3) := by decide +kernel
theorem dX10_init_15 : decode cX10_init 15 = .ok (.aload_n 0, 1) := by decide +kernel
theorem dX10_init_16 : decode cX10_init 16 = .ok (.new 16, 3) := by decide +kernel
theorem dX10_init_19 : decode cX10_init 19 = .ok (.dup, 1) := by decide +kernel
theorem dX10_init_20 : decode cX10_init 20 = .ok (.invokespecial 18, 3) := by decide +kernel
theorem dX10_init_23 : decode cX10_init 23 = .ok (.putfield 19, 3) := by decide +kernel
theorem dX10_init_26 : decode cX10_init 26 = .ok (.aload_n 0, 1) := by decide +kernel
theorem dX10_init_27 : decode cX10_init 27 = .ok (.new 23, 3) := by decide +kernel
theorem dX10_init_30 : decode cX10_init 30 = .ok (.dup, 1) := by decide +kernel
theorem dX10_init_31 : decode cX10_init 31 = .ok (.invokespecial 25, 3) := by decide +kernel
theorem dX10_init_34 : decode cX10_init 34 = .ok (.putfield 26, 3) := by decide +kernel
theorem dX10_init_37 : decode cX10_init 37 = .ok (.aload_n 0, 1) := by decide +kernel
theorem dX10_init_38 : decode cX10_init 38 = .ok (.new 30, 3) := by decide +kernel
theorem dX10_init_41 : decode cX10_init 41 = .ok (.dup, 1) := by decide +kernel
theorem dX10_init_42 : decode cX10_init 42 = .ok (.invokespecial 32, 3) := by decide +kernel
theorem dX10_init_45 : decode cX10_init 45 = .ok (.putfield 33, 3) := by decide +kernel
theorem dX10_init_48 : decode cX10_init 48 = .ok (.aload_n 0, 1) := by decide +kernel
theorem dX10_init_49 : decode cX10_init 49 = .ok (.new 37, 3) := by decide +kernel
theorem dX10_init_52 : decode cX10_init 52 = .ok (.dup, 1) := by decide +kernel
theorem dX10_init_53 : decode cX10_init 53 = .ok (.invokespecial 39, 3) := by decide +kernel
theorem dX10_init_56 : decode cX10_init 56 = .ok (.putfield 40, 3) := by decide +kernel
theorem dX10_init_59 : decode cX10_init 59 = .ok (.aload_n 0, 1) := by decide +kernel
theorem dX10_init_60 : decode cX10_init 60 = .ok (.new 44, 3) := by decide +kernel
theorem dX10_init_63 : decode cX10_init 63 = .ok (.dup, 1) := by decide +kernel
theorem dX10_init_64 : decode cX10_init 64 = .ok (.invokespecial 46, 3) := by decide +kernel
theorem dX10_init_67 : decode cX10_init 67 = .ok (.putfield 47, 3) := by decide +kernel
theorem dX10_init_70 : decode cX10_init 70 = .ok (.aload_n 0, 1) := by decide +kernel
theorem dX10_init_71 : decode cX10_init 71 = .ok (.new 51, 3) := by decide +kernel
theorem dX10_init_74 : decode cX10_init 74 = .ok (.dup, 1) := by decide +kernel
theorem dX10_init_75 : decode cX10_init 75 = .ok (.invokespecial 53, 3) := by decide +kernel
theorem dX10_init_78 : decode cX10_init 78 = .ok (.putfield 54, 3) := by decide +kernel
theorem dX10_init_81 : decode cX10_init 81 = .ok (.aload_n 0, 1) := by decide +kernel
theorem dX10_init_82 : decode cX10_init 82 = .ok (.new 58, 3) := by decide +kernel
theorem dX10_init_85 : decode cX10_init 85 = .ok (.dup, 1) := by decide +kernel
theorem dX10_init_86 : decode cX10_init 86 = .ok (.invokespecial 60, 3) := by decide +kernel
theorem dX10_init_89 : decode cX10_init 89 = .ok (.putfield 61, 3) := by decide +kernel
theorem dX10_init_92 : decode cX10_init 92 = .ok (.aload_n 0, 1) := by decide +kernel
theorem dX10_init_93 : decode cX10_init 93 = .ok (.new 65, 3) := by decide +kernel
theorem dX10_init_96 : decode cX10_init 96 = .ok (.dup, 1) := by decide +kernel
theorem dX10_init_97 : decode cX10_init 97 = .ok (.invokespecial 67, 3) := by decide +kernel
theorem dX10_init_100 : decode cX10_init 100 = .ok (.putfield 68, 3) := by decide +kernel
theorem dX10_init_103 : decode cX10_init 103 = .ok (.aload_n 0, 1) := by decide +kernel
theorem dX10_init_104 : decode cX10_init 104 = .ok (.new 72, 3) := by decide +kernel
theorem dX10_init_107 : decode cX10_init 107 = .ok (.dup, 1) := by decide +kernel
theorem dX10_init_108 : decode cX10_init 108 = .ok (.invokespecial 74, 3) := by decide +kernel
theorem dX10_init_111 : decode cX10_init 111 = .ok (.putfield 75, 3) := by decide +kernel
theorem dX10_init_114 : decode cX10_init 114 = .ok (.aload_n 0, 1) := by decide +kernel
theorem dX10_init_115 : decode cX10_init 115 = .ok (.bipush 6, 2) := by decide +kernel
theorem dX10_init_117 : decode cX10_init 117 = .ok (.newarray .boolean, 2) := by decide +kernel
theorem dX10_init_119 : decode cX10_init 119 = .ok (.putfield 79, 3) := by decide +kernel
theorem dX10_init_122 : decode cX10_init 122 = .ok (.aload_n 0, 1) := by decide +kernel
theorem dX10_init_123 : decode cX10_init 123 = .ok (.iconst 0, 1) := by decide +kernel
theorem dX10_init_124 : decode cX10_init 124 = .ok (.putfield 83, 3) := by decide +kernel
theorem dX10_init_127 : decode cX10_init 127 = .ok (.aload_n 0, 1) := by decide +kernel
theorem dX10_init_128 : decode cX10_init 128 = .ok (.iconst 0, 1) := by decide +kernel
theorem dX10_init_129 : decode cX10_init 129 = .ok (.putfield 87, 3) := by decide +kernel
theorem dX10_init_132 : decode cX10_init 132 = .ok (.return_, 1) := by decide +kernel
theorem dX10_setTank_0 : decode cX10_setTank 0 = .ok (.iload_n 1, 1) := by decide +kernel
theorem dX10_setTank_1 : decode cX10_setTank 1 = .ok (.iconst 3, 1) := by decide +kernel
theorem dX10_setTank_2 : decode cX10_setTank 2 = .ok (.invokestatic 90, 3) := by decide +kernel
theorem dX10_setTank_5 : decode cX10_setTank 5 = .ok (.ifCond .eq 35, 3) := by decide +kernel
theorem dX10_setTank_8 : decode cX10_setTank 8 = .ok (.iload_n 2, 1) := by decide +kernel
theorem dX10_setTank_9 : decode cX10_setTank 9 = .ok (.iconst 0, 1) := by decide +kernel
theorem dX10_setTank_10 : decode cX10_setTank 10 = .ok (.ldc 94, 2) := by decide +kernel
theorem dX10_setTank_12 : decode cX10_setTank 12 = .ok (.invokestatic 95, 3) := by decide +kernel
theorem dX10_setTank_15 : decode cX10_setTank 15 = .ok (.ifCond .eq 25, 3) := by decide +kernel
theorem dX10_setTank_18 : decode cX10_setTank 18 = .ok (.iload_n 3, 1) := by decide +kernel
theorem dX10_setTank_19 : decode cX10_setTank 19 = .ok (.iconst 0, 1) := by decide +kernel
theorem dX10_setTank_20 : decode cX10_setTank 20 = .ok (.sipush 1000, 3) := by decide +kernel
theorem dX10_setTank_23 : decode cX10_setTank 23 = .ok (.invokestatic 95, 3) := by decide +kernel
theorem dX10_setTank_26 : decode cX10_setTank 26 = .ok (.ifCond .eq 14, 3) := by decide +kernel
theorem dX10_setTank_29 : decode cX10_setTank 29 = .ok (.iload 4, 2) := by decide +kernel
theorem dX10_setTank_31 : decode cX10_setTank 31 = .ok (.iconst 0, 1) := by decide +kernel
theorem dX10_setTank_32 : decode cX10_setTank 32 = .ok (.bipush 100, 2) := by decide +kernel
theorem dX10_setTank_34 : decode cX10_setTank 34 = .ok (.invokestatic 95, 3) := by decide +kernel
theorem dX10_setTank_37 : decode cX10_setTank 37 = .ok (.ifCond .ne 13, 3) := by decide +kernel
theorem dX10_setTank_40 : decode cX10_setTank 40 = .ok (.new 99, 3) := by decide +kernel
theorem dX10_setTank_43 : decode cX10_setTank 43 = .ok (.dup, 1) := by decide +kernel
theorem dX10_setTank_44 : decode cX10_setTank 44 = .ok (.ldc 101, 2) := by decide +kernel
theorem dX10_setTank_46 : decode cX10_setTank 46 = .ok (.invokespecial 103, 3) := by decide +kernel
theorem dX10_setTank_49 : decode cX10_setTank 49 = .ok (.athrow, 1) := by decide +kernel
theorem dX10_setTank_50 : decode cX10_setTank 50 = .ok (.aload_n 0, 1) := by decide +kernel
theorem dX10_setTank_51 : decode cX10_setTank 51 = .ok (.getfield 10, 3) := by decide +kernel
theorem dX10_setTank_54 : decode cX10_setTank 54 = .ok (.iload_n 1, 1) := by decide +kernel
theorem dX10_setTank_55 : decode cX10_setTank 55 = .ok (.iload_n 2, 1) := by decide +kernel
theorem dX10_setTank_56 : decode cX10_setTank 56 = .ok (.iload_n 3, 1) := by decide +kernel
theorem dX10_setTank_57 : decode cX10_setTank 57 = .ok (.iload 4, 2) := by decide +kernel
theorem dX10_setTank_59 : decode cX10_setTank 59 = .ok (.invokevirtual 106, 3) := by decide +kernel
theorem dX10_setTank_62 : decode cX10_setTank 62 = .ok (.ireturn, 1) := by decide +kernel
theorem dX10_setValve_0 : decode cX10_setValve 0 = .ok (.iload_n 1, 1) := by decide +kernel
theorem dX10_setValve_1 : decode cX10_setValve 1 = .ok (.iconst 3, 1) := by decide +kernel
theorem dX10_setValve_2 : decode cX10_setValve 2 = .ok (.invokestatic 90, 3) := by decide +kernel
theorem dX10_setValve_5 : decode cX10_setValve 5 = .ok (.ifCond .ne 13, 3) := by decide +kernel
theorem dX10_setValve_8 : decode cX10_setValve 8 = .ok (.new 99, 3) := by decide +kernel
theorem dX10_setValve_11 : decode cX10_setValve 11 = .ok (.dup, 1) := by decide +kernel
theorem dX10_setValve_12 : decode cX10_setValve 12 = .ok (.ldc 110, 2) := by decide +kernel
theorem dX10_setValve_14 : decode cX10_setValve 14 = .ok (.invokespecial 103, 3) := by decide +kernel
theorem dX10_setValve_17 : decode cX10_setValve 17 = .ok (.athrow, 1) := by decide +kernel
theorem dX10_setValve_18 : decode cX10_setValve 18 = .ok (.aload_n 0, 1) := by decide +kernel
theorem dX10_setValve_19 : decode cX10_setValve 19 = .ok (.getfield 10, 3) := by decide +kernel
theorem dX10_setValve_22 : decode cX10_setValve 22 = .ok (.getfield 112, 3) := by decide +kernel
theorem dX10_setValve_25 : decode cX10_setValve 25 = .ok (.iload_n 1, 1) := by decide +kernel
theorem dX10_setValve_26 : decode cX10_setValve 26 = .ok (.baload, 1) := by decide +kernel
theorem dX10_setValve_27 : decode cX10_setValve 27 = .ok (.istore_n 3, 1) := by decide +kernel
theorem dX10_setValve_28 : decode cX10_setValve 28 = .ok (.aload_n 0, 1) := by decide +kernel
theorem dX10_setValve_29 : decode cX10_setValve 29 = .ok (.getfield 10, 3) := by decide +kernel
theorem dX10_setValve_32 : decode cX10_setValve 32 = .ok (.getfield 112, 3) := by decide +kernel
theorem dX10_setValve_35 : decode cX10_setValve 35 = .ok (.iload_n 1, 1) := by decide +kernel
theorem dX10_setValve_36 : decode cX10_setValve 36 = .ok (.iload_n 2, 1) := by decide +kernel
theorem dX10_setValve_37 : decode cX10_setValve 37 = .ok (.bastore, 1) := by decide +kernel
theorem dX10_setValve_38 : decode cX10_setValve 38 = .ok (.iload_n 3, 1) := by decide +kernel
theorem dX10_setValve_39 : decode cX10_setValve 39 = .ok (.ireturn, 1) := by decide +kernel
theorem dX10_drain_0 : decode cX10_drain 0 = .ok (.iload_n 1, 1) := by decide +kernel
theorem dX10_drain_1 : decode cX10_drain 1 = .ok (.iconst 3, 1) := by decide +kernel
theorem dX10_drain_2 : decode cX10_drain 2 = .ok (.invokestatic 90, 3) := by decide +kernel
theorem dX10_drain_5 : decode cX10_drain 5 = .ok (.ifCond .eq 13, 3) := by decide +kernel
theorem dX10_drain_8 : decode cX10_drain 8 = .ok (.iload_n 2, 1) := by decide +kernel
theorem dX10_drain_9 : decode cX10_drain 9 = .ok (.iconst 1, 1) := by decide +kernel
theorem dX10_drain_10 : decode cX10_drain 10 = .ok (.ldc 94, 2) := by decide +kernel
theorem dX10_drain_12 : decode cX10_drain 12 = .ok (.invokestatic 95, 3) := by decide +kernel
theorem dX10_drain_15 : decode cX10_drain 15 = .ok (.ifCond .ne 13, 3) := by decide +kernel
theorem dX10_drain_18 : decode cX10_drain 18 = .ok (.new 99, 3) := by decide +kernel
theorem dX10_drain_21 : decode cX10_drain 21 = .ok (.dup, 1) := by decide +kernel
theorem dX10_drain_22 : decode cX10_drain 22 = .ok (.ldc 115, 2) := by decide +kernel
theorem dX10_drain_24 : decode cX10_drain 24 = .ok (.invokespecial 103, 3) := by decide +kernel
theorem dX10_drain_27 : decode cX10_drain 27 = .ok (.athrow, 1) := by decide +kernel
theorem dX10_drain_28 : decode cX10_drain 28 = .ok (.aload_n 0, 1) := by decide +kernel
theorem dX10_drain_29 : decode cX10_drain 29 = .ok (.getfield 10, 3) := by decide +kernel
theorem dX10_drain_32 : decode cX10_drain 32 = .ok (.iload_n 1, 1) := by decide +kernel
theorem dX10_drain_33 : decode cX10_drain 33 = .ok (.iload_n 2, 1) := by decide +kernel
theorem dX10_drain_34 : decode cX10_drain 34 = .ok (.invokevirtual 117, 3) := by decide +kernel
theorem dX10_drain_37 : decode cX10_drain 37 = .ok (.ireturn, 1) := by decide +kernel
theorem dX10_inTank_0 : decode cX10_inTank 0 = .ok (.iload_n 1, 1) := by decide +kernel
theorem dX10_inTank_1 : decode cX10_inTank 1 = .ok (.iconst 3, 1) := by decide +kernel
theorem dX10_inTank_2 : decode cX10_inTank 2 = .ok (.invokestatic 90, 3) := by decide +kernel
theorem dX10_inTank_5 : decode cX10_inTank 5 = .ok (.ifCond .ne 13, 3) := by decide +kernel
theorem dX10_inTank_8 : decode cX10_inTank 8 = .ok (.new 99, 3) := by decide +kernel
theorem dX10_inTank_11 : decode cX10_inTank 11 = .ok (.dup, 1) := by decide +kernel
theorem dX10_inTank_12 : decode cX10_inTank 12 = .ok (.ldc 110, 2) := by decide +kernel
theorem dX10_inTank_14 : decode cX10_inTank 14 = .ok (.invokespecial 103, 3) := by decide +kernel
theorem dX10_inTank_17 : decode cX10_inTank 17 = .ok (.athrow, 1) := by decide +kernel
theorem dX10_inTank_18 : decode cX10_inTank 18 = .ok (.aload_n 0, 1) := by decide +kernel
theorem dX10_inTank_19 : decode cX10_inTank 19 = .ok (.getfield 10, 3) := by decide +kernel
theorem dX10_inTank_22 : decode cX10_inTank 22 = .ok (.getfield 121, 3) := by decide +kernel
theorem dX10_inTank_25 : decode cX10_inTank 25 = .ok (.iload_n 1, 1) := by decide +kernel
theorem dX10_inTank_26 : decode cX10_inTank 26 = .ok (.iaload, 1) := by decide +kernel
theorem dX10_inTank_27 : decode cX10_inTank 27 = .ok (.ireturn, 1) := by decide +kernel
theorem dX10_addStep_0 : decode cX10_addStep 0 = .ok (.iload_n 1, 1) := by decide +kernel
theorem dX10_addStep_1 : decode cX10_addStep 1 = .ok (.sipush (-600), 3) := by decide +kernel
theorem dX10_addStep_4 : decode cX10_addStep 4 = .ok (.iconst (-1), 1) := by decide +kernel
theorem dX10_addStep_5 : decode cX10_addStep 5 = .ok (.invokestatic 95, 3) := by decide +kernel
theorem dX10_addStep_8 : decode cX10_addStep 8 = .ok (.ifCond .eq 14, 3) := by decide +kernel
theorem dX10_addStep_11 : decode cX10_addStep 11 = .ok (.iload_n 2, 1) := by decide +kernel
theorem dX10_addStep_12 : decode cX10_addStep 12 = .ok (.iconst 1, 1) := by decide +kernel
theorem dX10_addStep_13 : decode cX10_addStep 13 = .ok (.sipush 300, 3) := by decide +kernel
theorem dX10_addStep_16 : decode cX10_addStep 16 = .ok (.invokestatic 95, 3) := by decide +kernel
theorem dX10_addStep_19 : decode cX10_addStep 19 = .ok (.ifCond .ne 13, 3) := by decide +kernel
theorem dX10_addStep_22 : decode cX10_addStep 22 = .ok (.new 99, 3) := by decide +kernel
theorem dX10_addStep_25 : decode cX10_addStep 25 = .ok (.dup, 1) := by decide +kernel
theorem dX10_addStep_26 : decode cX10_addStep 26 = .ok (.ldc 125, 2) := by decide +kernel
theorem dX10_addStep_28 : decode cX10_addStep 28 = .ok (.invokespecial 103, 3) := by decide +kernel
theorem dX10_addStep_31 : decode cX10_addStep 31 = .ok (.athrow, 1) := by decide +kernel
theorem dX10_addStep_32 : decode cX10_addStep 32 = .ok (.aload_n 0, 1) := by decide +kernel
theorem dX10_addStep_33 : decode cX10_addStep 33 = .ok (.getfield 19, 3) := by decide +kernel
theorem dX10_addStep_36 : decode cX10_addStep 36 = .ok (.getfield 127, 3) := by decide +kernel
theorem dX10_addStep_39 : decode cX10_addStep 39 = .ok (.bipush 16, 2) := by decide +kernel
theorem dX10_addStep_41 : decode cX10_addStep 41 = .ok (.if_icmp .ge 10, 3) := by decide +kernel
theorem dX10_addStep_44 : decode cX10_addStep 44 = .ok (.aload_n 0, 1) := by decide +kernel
theorem dX10_addStep_45 : decode cX10_addStep 45 = .ok (.invokevirtual 130, 3) := by decide +kernel
theorem dX10_addStep_48 : decode cX10_addStep 48 = .ok (.ifCond .eq 13, 3) := by decide +kernel
theorem dX10_addStep_51 : decode cX10_addStep 51 = .ok (.new 134, 3) := by decide +kernel
theorem dX10_addStep_54 : decode cX10_addStep 54 = .ok (.dup, 1) := by decide +kernel
theorem dX10_addStep_55 : decode cX10_addStep 55 = .ok (.ldc 136, 2) := by decide +kernel
theorem dX10_addStep_57 : decode cX10_addStep 57 = .ok (.invokespecial 138, 3) := by decide +kernel
theorem dX10_addStep_60 : decode cX10_addStep 60 = .ok (.athrow, 1) := by decide +kernel
theorem dX10_addStep_61 : decode cX10_addStep 61 = .ok (.aload_n 0, 1) := by decide +kernel
theorem dX10_addStep_62 : decode cX10_addStep 62 = .ok (.getfield 19, 3) := by decide +kernel
theorem dX10_addStep_65 : decode cX10_addStep 65 = .ok (.iload_n 1, 1) := by decide +kernel
theorem dX10_addStep_66 : decode cX10_addStep 66 = .ok (.iload_n 2, 1) := by decide +kernel
theorem dX10_addStep_67 : decode cX10_addStep 67 = .ok (.invokevirtual 139, 3) := by decide +kernel
theorem dX10_addStep_70 : decode cX10_addStep 70 = .ok (.ireturn, 1) := by decide +kernel
theorem dX10_setAfter_0 : decode cX10_setAfter 0 = .ok (.iload_n 1, 1) := by decide +kernel
theorem dX10_setAfter_1 : decode cX10_setAfter 1 = .ok (.aload_n 0, 1) := by decide +kernel
theorem dX10_setAfter_2 : decode cX10_setAfter 2 = .ok (.getfield 19, 3) := by decide +kernel
theorem dX10_setAfter_5 : decode cX10_setAfter 5 = .ok (.getfield 127, 3) := by decide +kernel
theorem dX10_setAfter_8 : decode cX10_setAfter 8 = .ok (.invokestatic 90, 3) := by decide +kernel
theorem dX10_setAfter_11 : decode cX10_setAfter 11 = .ok (.ifCond .eq 17, 3) := by decide +kernel
theorem dX10_setAfter_14 : decode cX10_setAfter 14 = .ok (.iload_n 2, 1) := by decide +kernel
theorem dX10_setAfter_15 : decode cX10_setAfter 15 = .ok (.aload_n 0, 1) := by decide +kernel
theorem dX10_setAfter_16 : decode cX10_setAfter 16 = .ok (.getfield 19, 3) := by decide +kernel
theorem dX10_setAfter_19 : decode cX10_setAfter 19 = .ok (.getfield 127, 3) := by decide +kernel
theorem dX10_setAfter_22 : decode cX10_setAfter 22 = .ok (.invokestatic 90, 3) := by decide +kernel
theorem dX10_setAfter_25 : decode cX10_setAfter 25 = .ok (.ifCond .ne 13, 3) := by decide +kernel
theorem dX10_setAfter_28 : decode cX10_setAfter 28 = .ok (.new 142, 3) := by decide +kernel
theorem dX10_setAfter_31 : decode cX10_setAfter 31 = .ok (.dup, 1) := by decide +kernel
theorem dX10_setAfter_32 : decode cX10_setAfter 32 = .ok (.ldc 144, 2) := by decide +kernel
theorem dX10_setAfter_34 : decode cX10_setAfter 34 = .ok (.invokespecial 146, 3) := by decide +kernel
theorem dX10_setAfter_37 : decode cX10_setAfter 37 = .ok (.athrow, 1) := by decide +kernel
theorem dX10_setAfter_38 : decode cX10_setAfter 38 = .ok (.iload_n 2, 1) := by decide +kernel
theorem dX10_setAfter_39 : decode cX10_setAfter 39 = .ok (.iload_n 1, 1) := by decide +kernel
theorem dX10_setAfter_40 : decode cX10_setAfter 40 = .ok (.if_icmp .lt 13, 3) := by decide +kernel
theorem dX10_setAfter_43 : decode cX10_setAfter 43 = .ok (.new 99, 3) := by decide +kernel
theorem dX10_setAfter_46 : decode cX10_setAfter 46 = .ok (.dup, 1) := by decide +kernel
theorem dX10_setAfter_47 : decode cX10_setAfter 47 = .ok (.ldc 147, 2) := by decide +kernel
theorem dX10_setAfter_49 : decode cX10_setAfter 49 = .ok (.invokespecial 103, 3) := by decide +kernel
theorem dX10_setAfter_52 : decode cX10_setAfter 52 = .ok (.athrow, 1) := by decide +kernel
theorem dX10_setAfter_53 : decode cX10_setAfter 53 = .ok (.aload_n 0, 1) := by decide +kernel
theorem dX10_setAfter_54 : decode cX10_setAfter 54 = .ok (.invokevirtual 130, 3) := by decide +kernel
theorem dX10_setAfter_57 : decode cX10_setAfter 57 = .ok (.ifCond .eq 13, 3) := by decide +kernel
theorem dX10_setAfter_60 : decode cX10_setAfter 60 = .ok (.new 134, 3) := by decide +kernel
theorem dX10_setAfter_63 : decode cX10_setAfter 63 = .ok (.dup, 1) := by decide +kernel
theorem dX10_setAfter_64 : decode cX10_setAfter 64 = .ok (.ldc 149, 2) := by decide +kernel
theorem dX10_setAfter_66 : decode cX10_setAfter 66 = .ok (.invokespecial 138, 3) := by decide +kernel
theorem dX10_setAfter_69 : decode cX10_setAfter 69 = .ok (.athrow, 1) := by decide +kernel
theorem dX10_setAfter_70 : decode cX10_setAfter 70 = .ok (.aload_n 0, 1) := by decide +kernel
theorem dX10_setAfter_71 : decode cX10_setAfter 71 = .ok (.getfield 19, 3) := by decide +kernel
theorem dX10_setAfter_74 : decode cX10_setAfter 74 = .ok (.iload_n 1, 1) := by decide +kernel
theorem dX10_setAfter_75 : decode cX10_setAfter 75 = .ok (.iload_n 2, 1) := by decide +kernel
theorem dX10_setAfter_76 : decode cX10_setAfter 76 = .ok (.invokevirtual 151, 3) := by decide +kernel
theorem dX10_setAfter_79 : decode cX10_setAfter 79 = .ok (.ireturn, 1) := by decide +kernel
theorem dX10_stepState_0 : decode cX10_stepState 0 = .ok (.iload_n 1, 1) := by decide +kernel
theorem dX10_stepState_1 : decode cX10_stepState 1 = .ok (.aload_n 0, 1) := by decide +kernel
theorem dX10_stepState_2 : decode cX10_stepState 2 = .ok (.getfield 19, 3) := by decide +kernel
theorem dX10_stepState_5 : decode cX10_stepState 5 = .ok (.getfield 127, 3) := by decide +kernel
theorem dX10_stepState_8 : decode cX10_stepState 8 = .ok (.invokestatic 90, 3) := by decide +kernel
theorem dX10_stepState_11 : decode cX10_stepState 11 = .ok (.ifCond .ne 13, 3) := by decide +kernel
theorem dX10_stepState_14 : decode cX10_stepState 14 = .ok (.new 142, 3) := by decide +kernel
theorem dX10_stepState_17 : decode cX10_stepState 17 = .ok (.dup, 1) := by decide +kernel
theorem dX10_stepState_18 : decode cX10_stepState 18 = .ok (.ldc 144, 2) := by decide +kernel
theorem dX10_stepState_20 : decode cX10_stepState 20 = .ok (.invokespecial 146, 3) := by decide +kernel
theorem dX10_stepState_23 : decode cX10_stepState 23 = .ok (.athrow, 1) := by decide +kernel
theorem dX10_stepState_24 : decode cX10_stepState 24 = .ok (.aload_n 0, 1) := by decide +kernel
theorem dX10_stepState_25 : decode cX10_stepState 25 = .ok (.getfield 19, 3) := by decide +kernel
theorem dX10_stepState_28 : decode cX10_stepState 28 = .ok (.getfield 154, 3) := by decide +kernel
theorem dX10_stepState_31 : decode cX10_stepState 31 = .ok (.iload_n 1, 1) := by decide +kernel
theorem dX10_stepState_32 : decode cX10_stepState 32 = .ok (.caload, 1) := by decide +kernel
theorem dX10_stepState_33 : decode cX10_stepState 33 = .ok (.ireturn, 1) := by decide +kernel
theorem dX10_addMark_0 : decode cX10_addMark 0 = .ok (.iload_n 1, 1) := by decide +kernel
theorem dX10_addMark_1 : decode cX10_addMark 1 = .ok (.sipush (-600), 3) := by decide +kernel
theorem dX10_addMark_4 : decode cX10_addMark 4 = .ok (.iconst (-1), 1) := by decide +kernel
theorem dX10_addMark_5 : decode cX10_addMark 5 = .ok (.invokestatic 95, 3) := by decide +kernel
theorem dX10_addMark_8 : decode cX10_addMark 8 = .ok (.ifCond .eq 26, 3) := by decide +kernel
theorem dX10_addMark_11 : decode cX10_addMark 11 = .ok (.iload_n 2, 1) := by decide +kernel
theorem dX10_addMark_12 : decode cX10_addMark 12 = .ok (.iconst 0, 1) := by decide +kernel
theorem dX10_addMark_13 : decode cX10_addMark 13 = .ok (.sipush 300, 3) := by decide +kernel
theorem dX10_addMark_16 : decode cX10_addMark 16 = .ok (.invokestatic 95, 3) := by decide +kernel
theorem dX10_addMark_19 : decode cX10_addMark 19 = .ok (.ifCond .eq 15, 3) := by decide +kernel
theorem dX10_addMark_22 : decode cX10_addMark 22 = .ok (.aload_n 0, 1) := by decide +kernel
theorem dX10_addMark_23 : decode cX10_addMark 23 = .ok (.getfield 26, 3) := by decide +kernel
theorem dX10_addMark_26 : decode cX10_addMark 26 = .ok (.iload_n 1, 1) := by decide +kernel
theorem dX10_addMark_27 : decode cX10_addMark 27 = .ok (.invokevirtual 158, 3) := by decide +kernel
theorem dX10_addMark_30 : decode cX10_addMark 30 = .ok (.iconst (-1), 1) := by decide +kernel
theorem dX10_addMark_31 : decode cX10_addMark 31 = .ok (.if_icmp .eq 13, 3) := by decide +kernel
theorem dX10_addMark_34 : decode cX10_addMark 34 = .ok (.new 99, 3) := by decide +kernel
theorem dX10_addMark_37 : decode cX10_addMark 37 = .ok (.dup, 1) := by decide +kernel
theorem dX10_addMark_38 : decode cX10_addMark 38 = .ok (.ldc 162, 2) := by decide +kernel
theorem dX10_addMark_40 : decode cX10_addMark 40 = .ok (.invokespecial 103, 3) := by decide +kernel
theorem dX10_addMark_43 : decode cX10_addMark 43 = .ok (.athrow, 1) := by decide +kernel
theorem dX10_addMark_44 : decode cX10_addMark 44 = .ok (.aload_n 0, 1) := by decide +kernel
theorem dX10_addMark_45 : decode cX10_addMark 45 = .ok (.getfield 19, 3) := by decide +kernel
theorem dX10_addMark_48 : decode cX10_addMark 48 = .ok (.iload_n 3, 1) := by decide +kernel
theorem dX10_addMark_49 : decode cX10_addMark 49 = .ok (.invokevirtual 164, 3) := by decide +kernel
theorem dX10_addMark_52 : decode cX10_addMark 52 = .ok (.ifCond .ne 13, 3) := by decide +kernel
theorem dX10_addMark_55 : decode cX10_addMark 55 = .ok (.new 168, 3) := by decide +kernel
theorem dX10_addMark_58 : decode cX10_addMark 58 = .ok (.dup, 1) := by decide +kernel
theorem dX10_addMark_59 : decode cX10_addMark 59 = .ok (.ldc 144, 2) := by decide +kernel
theorem dX10_addMark_61 : decode cX10_addMark 61 = .ok (.invokespecial 170, 3) := by decide +kernel
theorem dX10_addMark_64 : decode cX10_addMark 64 = .ok (.athrow, 1) := by decide +kernel
theorem dX10_addMark_65 : decode cX10_addMark 65 = .ok (.aload_n 0, 1) := by decide +kernel
theorem dX10_addMark_66 : decode cX10_addMark 66 = .ok (.getfield 26, 3) := by decide +kernel
theorem dX10_addMark_69 : decode cX10_addMark 69 = .ok (.getfield 171, 3) := by decide +kernel
theorem dX10_addMark_72 : decode cX10_addMark 72 = .ok (.bipush 6, 2) := by decide +kernel
theorem dX10_addMark_74 : decode cX10_addMark 74 = .ok (.if_icmp .ge 10, 3) := by decide +kernel
theorem dX10_addMark_77 : decode cX10_addMark 77 = .ok (.aload_n 0, 1) := by decide +kernel
theorem dX10_addMark_78 : decode cX10_addMark 78 = .ok (.invokevirtual 130, 3) := by decide +kernel
theorem dX10_addMark_81 : decode cX10_addMark 81 = .ok (.ifCond .eq 13, 3) := by decide +kernel
theorem dX10_addMark_84 : decode cX10_addMark 84 = .ok (.new 134, 3) := by decide +kernel
theorem dX10_addMark_87 : decode cX10_addMark 87 = .ok (.dup, 1) := by decide +kernel
theorem dX10_addMark_88 : decode cX10_addMark 88 = .ok (.ldc 172, 2) := by decide +kernel
theorem dX10_addMark_90 : decode cX10_addMark 90 = .ok (.invokespecial 138, 3) := by decide +kernel
theorem dX10_addMark_93 : decode cX10_addMark 93 = .ok (.athrow, 1) := by decide +kernel
theorem dX10_addMark_94 : decode cX10_addMark 94 = .ok (.aload_n 0, 1) := by decide +kernel
theorem dX10_addMark_95 : decode cX10_addMark 95 = .ok (.getfield 26, 3) := by decide +kernel
theorem dX10_addMark_98 : decode cX10_addMark 98 = .ok (.iload_n 1, 1) := by decide +kernel
theorem dX10_addMark_99 : decode cX10_addMark 99 = .ok (.iload_n 2, 1) := by decide +kernel
theorem dX10_addMark_100 : decode cX10_addMark 100 = .ok (.iload_n 3, 1) := by decide +kernel
theorem dX10_addMark_101 : decode cX10_addMark 101 = .ok (.invokevirtual 174, 3) := by decide +kernel
theorem dX10_addMark_104 : decode cX10_addMark 104 = .ok (.aload_n 0, 1) := by decide +kernel
theorem dX10_addMark_105 : decode cX10_addMark 105 = .ok (.getfield 26, 3) := by decide +kernel
theorem dX10_addMark_108 : decode cX10_addMark 108 = .ok (.getfield 171, 3) := by decide +kernel
theorem dX10_addMark_111 : decode cX10_addMark 111 = .ok (.ireturn, 1) := by decide +kernel
theorem dX10_sense_0 : decode cX10_sense 0 = .ok (.iload_n 1, 1) := by decide +kernel
theorem dX10_sense_1 : decode cX10_sense 1 = .ok (.bipush 9, 2) := by decide +kernel
theorem dX10_sense_3 : decode cX10_sense 3 = .ok (.invokestatic 90, 3) := by decide +kernel
theorem dX10_sense_6 : decode cX10_sense 6 = .ok (.ifCond .eq 16, 3) := by decide +kernel
theorem dX10_sense_9 : decode cX10_sense 9 = .ok (.iload_n 2, 1) := by decide +kernel
theorem dX10_sense_10 : decode cX10_sense 10 = .ok (.sipush (-9999), 3) := by decide +kernel
theorem dX10_sense_13 : decode cX10_sense 13 = .ok (.sipush 9999, 3) := by decide +kernel
theorem dX10_sense_16 : decode cX10_sense 16 = .ok (.invokestatic 95, 3) := by decide +kernel
theorem dX10_sense_19 : decode cX10_sense 19 = .ok (.ifCond .ne 13, 3) := by decide +kernel
theorem dX10_sense_22 : decode cX10_sense 22 = .ok (.new 99, 3) := by decide +kernel
theorem dX10_sense_25 : decode cX10_sense 25 = .ok (.dup, 1) := by decide +kernel
theorem dX10_sense_26 : decode cX10_sense 26 = .ok (.ldc 125, 2) := by decide +kernel
theorem dX10_sense_28 : decode cX10_sense 28 = .ok (.invokespecial 103, 3) := by decide +kernel
theorem dX10_sense_31 : decode cX10_sense 31 = .ok (.athrow, 1) := by decide +kernel
theorem dX10_sense_32 : decode cX10_sense 32 = .ok (.aload_n 0, 1) := by decide +kernel
theorem dX10_sense_33 : decode cX10_sense 33 = .ok (.getfield 33, 3) := by decide +kernel
theorem dX10_sense_36 : decode cX10_sense 36 = .ok (.getfield 178, 3) := by decide +kernel
theorem dX10_sense_39 : decode cX10_sense 39 = .ok (.iload_n 1, 1) := by decide +kernel
theorem dX10_sense_40 : decode cX10_sense 40 = .ok (.iload_n 2, 1) := by decide +kernel
theorem dX10_sense_41 : decode cX10_sense 41 = .ok (.iastore, 1) := by decide +kernel
theorem dX10_sense_42 : decode cX10_sense 42 = .ok (.aload_n 0, 1) := by decide +kernel
theorem dX10_sense_43 : decode cX10_sense 43 = .ok (.getfield 33, 3) := by decide +kernel
theorem dX10_sense_46 : decode cX10_sense 46 = .ok (.iload_n 1, 1) := by decide +kernel
theorem dX10_sense_47 : decode cX10_sense 47 = .ok (.iconst 3, 1) := by decide +kernel
theorem dX10_sense_48 : decode cX10_sense 48 = .ok (.idiv, 1) := by decide +kernel
theorem dX10_sense_49 : decode cX10_sense 49 = .ok (.invokevirtual 181, 3) := by decide +kernel
theorem dX10_sense_52 : decode cX10_sense 52 = .ok (.ireturn, 1) := by decide +kernel
theorem dX10_inhibit_0 : decode cX10_inhibit 0 = .ok (.iload_n 1, 1) := by decide +kernel
theorem dX10_inhibit_1 : decode cX10_inhibit 1 = .ok (.bipush 9, 2) := by decide +kernel
theorem dX10_inhibit_3 : decode cX10_inhibit 3 = .ok (.invokestatic 90, 3) := by decide +kernel
theorem dX10_inhibit_6 : decode cX10_inhibit 6 = .ok (.ifCond .ne 13, 3) := by decide +kernel
theorem dX10_inhibit_9 : decode cX10_inhibit 9 = .ok (.new 99, 3) := by decide +kernel
theorem dX10_inhibit_12 : decode cX10_inhibit 12 = .ok (.dup, 1) := by decide +kernel
theorem dX10_inhibit_13 : decode cX10_inhibit 13 = .ok (.ldc 184, 2) := by decide +kernel
theorem dX10_inhibit_15 : decode cX10_inhibit 15 = .ok (.invokespecial 103, 3) := by decide +kernel
theorem dX10_inhibit_18 : decode cX10_inhibit 18 = .ok (.athrow, 1) := by decide +kernel
theorem dX10_inhibit_19 : decode cX10_inhibit 19 = .ok (.iload_n 2, 1) := by decide +kernel
theorem dX10_inhibit_20 : decode cX10_inhibit 20 = .ok (.ifCond .eq 24, 3) := by decide +kernel
theorem dX10_inhibit_23 : decode cX10_inhibit 23 = .ok (.aload_n 0, 1) := by decide +kernel
theorem dX10_inhibit_24 : decode cX10_inhibit 24 = .ok (.getfield 33, 3) := by decide +kernel
theorem dX10_inhibit_27 : decode cX10_inhibit 27 = .ok (.iload_n 1, 1) := by decide +kernel
theorem dX10_inhibit_28 : decode cX10_inhibit 28 = .ok (.invokevirtual 186, 3) := by decide +kernel
theorem dX10_inhibit_31 : decode cX10_inhibit 31 = .ok (.ifCond .eq 13, 3) := by decide +kernel
theorem dX10_inhibit_34 : decode cX10_inhibit 34 = .ok (.new 168, 3) := by decide +kernel
theorem dX10_inhibit_37 : decode cX10_inhibit 37 = .ok (.dup, 1) := by decide +kernel
theorem dX10_inhibit_38 : decode cX10_inhibit 38 = .ok (.ldc 189, 2) := by decide +kernel
theorem dX10_inhibit_40 : decode cX10_inhibit 40 = .ok (.invokespecial 170, 3) := by decide +kernel
theorem dX10_inhibit_43 : decode cX10_inhibit 43 = .ok (.athrow, 1) := by decide +kernel
theorem dX10_inhibit_44 : decode cX10_inhibit 44 = .ok (.aload_n 0, 1) := by decide +kernel
theorem dX10_inhibit_45 : decode cX10_inhibit 45 = .ok (.getfield 33, 3) := by decide +kernel
theorem dX10_inhibit_48 : decode cX10_inhibit 48 = .ok (.getfield 191, 3) := by decide +kernel
theorem dX10_inhibit_51 : decode cX10_inhibit 51 = .ok (.iload_n 1, 1) := by decide +kernel
theorem dX10_inhibit_52 : decode cX10_inhibit 52 = .ok (.iload_n 2, 1) := by decide +kernel
theorem dX10_inhibit_53 : decode cX10_inhibit 53 = .ok (.bastore, 1) := by decide +kernel
theorem dX10_inhibit_54 : decode cX10_inhibit 54 = .ok (.aload_n 0, 1) := by decide +kernel
theorem dX10_inhibit_55 : decode cX10_inhibit 55 = .ok (.getfield 33, 3) := by decide +kernel
theorem dX10_inhibit_58 : decode cX10_inhibit 58 = .ok (.iload_n 1, 1) := by decide +kernel
theorem dX10_inhibit_59 : decode cX10_inhibit 59 = .ok (.iconst 3, 1) := by decide +kernel
theorem dX10_inhibit_60 : decode cX10_inhibit 60 = .ok (.idiv, 1) := by decide +kernel
theorem dX10_inhibit_61 : decode cX10_inhibit 61 = .ok (.invokevirtual 194, 3) := by decide +kernel
theorem dX10_inhibit_64 : decode cX10_inhibit 64 = .ok (.ireturn, 1) := by decide +kernel
theorem dX10_setWind_0 : decode cX10_setWind 0 = .ok (.iload_n 1, 1) := by decide +kernel
theorem dX10_setWind_1 : decode cX10_setWind 1 = .ok (.iconst 0, 1) := by decide +kernel
theorem dX10_setWind_2 : decode cX10_setWind 2 = .ok (.sipush 200, 3) := by decide +kernel
theorem dX10_setWind_5 : decode cX10_setWind 5 = .ok (.invokestatic 95, 3) := by decide +kernel
theorem dX10_setWind_8 : decode cX10_setWind 8 = .ok (.ifCond .ne 13, 3) := by decide +kernel
theorem dX10_setWind_11 : decode cX10_setWind 11 = .ok (.new 99, 3) := by decide +kernel
theorem dX10_setWind_14 : decode cX10_setWind 14 = .ok (.dup, 1) := by decide +kernel
theorem dX10_setWind_15 : decode cX10_setWind 15 = .ok (.ldc 197, 2) := by decide +kernel
theorem dX10_setWind_17 : decode cX10_setWind 17 = .ok (.invokespecial 103, 3) := by decide +kernel
theorem dX10_setWind_20 : decode cX10_setWind 20 = .ok (.athrow, 1) := by decide +kernel
theorem dX10_setWind_21 : decode cX10_setWind 21 = .ok (.aload_n 0, 1) := by decide +kernel
theorem dX10_setWind_22 : decode cX10_setWind 22 = .ok (.getfield 83, 3) := by decide +kernel
theorem dX10_setWind_25 : decode cX10_setWind 25 = .ok (.istore_n 2, 1) := by decide +kernel
theorem dX10_setWind_26 : decode cX10_setWind 26 = .ok (.aload_n 0, 1) := by decide +kernel
theorem dX10_setWind_27 : decode cX10_setWind 27 = .ok (.iload_n 1, 1) := by decide +kernel
theorem dX10_setWind_28 : decode cX10_setWind 28 = .ok (.putfield 83, 3) := by decide +kernel
theorem dX10_setWind_31 : decode cX10_setWind 31 = .ok (.iload_n 2, 1) := by decide +kernel
theorem dX10_setWind_32 : decode cX10_setWind 32 = .ok (.ireturn, 1) := by decide +kernel
theorem dX10_strike_0 : decode cX10_strike 0 = .ok (.iload_n 1, 1) := by decide +kernel
theorem dX10_strike_1 : decode cX10_strike 1 = .ok (.iconst 0, 1) := by decide +kernel
theorem dX10_strike_2 : decode cX10_strike 2 = .ok (.bipush 99, 2) := by decide +kernel
theorem dX10_strike_4 : decode cX10_strike 4 = .ok (.invokestatic 95, 3) := by decide +kernel
theorem dX10_strike_7 : decode cX10_strike 7 = .ok (.ifCond .ne 13, 3) := by decide +kernel
theorem dX10_strike_10 : decode cX10_strike 10 = .ok (.new 99, 3) := by decide +kernel
theorem dX10_strike_13 : decode cX10_strike 13 = .ok (.dup, 1) := by decide +kernel
theorem dX10_strike_14 : decode cX10_strike 14 = .ok (.ldc 199, 2) := by decide +kernel
theorem dX10_strike_16 : decode cX10_strike 16 = .ok (.invokespecial 103, 3) := by decide +kernel
theorem dX10_strike_19 : decode cX10_strike 19 = .ok (.athrow, 1) := by decide +kernel
theorem dX10_strike_20 : decode cX10_strike 20 = .ok (.iload_n 1, 1) := by decide +kernel
theorem dX10_strike_21 : decode cX10_strike 21 = .ok (.bipush 20, 2) := by decide +kernel
theorem dX10_strike_23 : decode cX10_strike 23 = .ok (.if_icmp .gt 14, 3) := by decide +kernel
theorem dX10_strike_26 : decode cX10_strike 26 = .ok (.aload_n 0, 1) := by decide +kernel
theorem dX10_strike_27 : decode cX10_strike 27 = .ok (.getfield 40, 3) := by decide +kernel
theorem dX10_strike_30 : decode cX10_strike 30 = .ok (.aload_n 0, 1) := by decide +kernel
theorem dX10_strike_31 : decode cX10_strike 31 = .ok (.getfield 87, 3) := by decide +kernel
theorem dX10_strike_34 : decode cX10_strike 34 = .ok (.invokevirtual 201, 3) := by decide +kernel
theorem dX10_strike_37 : decode cX10_strike 37 = .ok (.aload_n 0, 1) := by decide +kernel
theorem dX10_strike_38 : decode cX10_strike 38 = .ok (.getfield 40, 3) := by decide +kernel
theorem dX10_strike_41 : decode cX10_strike 41 = .ok (.getfield 205, 3) := by decide +kernel
theorem dX10_strike_44 : decode cX10_strike 44 = .ok (.ireturn, 1) := by decide +kernel
theorem dX10_boat_0 : decode cX10_boat 0 = .ok (.iload_n 1, 1) := by decide +kernel
theorem dX10_boat_1 : decode cX10_boat 1 = .ok (.bipush 8, 2) := by decide +kernel
theorem dX10_boat_3 : decode cX10_boat 3 = .ok (.invokestatic 90, 3) := by decide +kernel
theorem dX10_boat_6 : decode cX10_boat 6 = .ok (.ifCond .eq 23, 3) := by decide +kernel
theorem dX10_boat_9 : decode cX10_boat 9 = .ok (.iload_n 2, 1) := by decide +kernel
theorem dX10_boat_10 : decode cX10_boat 10 = .ok (.iconst 0, 1) := by decide +kernel
theorem dX10_boat_11 : decode cX10_boat 11 = .ok (.bipush 50, 2) := by decide +kernel
theorem dX10_boat_13 : decode cX10_boat 13 = .ok (.invokestatic 95, 3) := by decide +kernel
theorem dX10_boat_16 : decode cX10_boat 16 = .ok (.ifCond .eq 13, 3) := by decide +kernel
theorem dX10_boat_19 : decode cX10_boat 19 = .ok (.iload_n 3, 1) := by decide +kernel
theorem dX10_boat_20 : decode cX10_boat 20 = .ok (.iconst 0, 1) := by decide +kernel
theorem dX10_boat_21 : decode cX10_boat 21 = .ok (.bipush 99, 2) := by decide +kernel
theorem dX10_boat_23 : decode cX10_boat 23 = .ok (.invokestatic 95, 3) := by decide +kernel
theorem dX10_boat_26 : decode cX10_boat 26 = .ok (.ifCond .ne 13, 3) := by decide +kernel
theorem dX10_boat_29 : decode cX10_boat 29 = .ok (.new 99, 3) := by decide +kernel
theorem dX10_boat_32 : decode cX10_boat 32 = .ok (.dup, 1) := by decide +kernel
theorem dX10_boat_33 : decode cX10_boat 33 = .ok (.ldc 125, 2) := by decide +kernel
theorem dX10_boat_35 : decode cX10_boat 35 = .ok (.invokespecial 103, 3) := by decide +kernel
theorem dX10_boat_38 : decode cX10_boat 38 = .ok (.athrow, 1) := by decide +kernel
theorem dX10_boat_39 : decode cX10_boat 39 = .ok (.aload_n 0, 1) := by decide +kernel
theorem dX10_boat_40 : decode cX10_boat 40 = .ok (.getfield 47, 3) := by decide +kernel
theorem dX10_boat_43 : decode cX10_boat 43 = .ok (.iload_n 1, 1) := by decide +kernel
theorem dX10_boat_44 : decode cX10_boat 44 = .ok (.iload_n 2, 1) := by decide +kernel
theorem dX10_boat_45 : decode cX10_boat 45 = .ok (.iload_n 3, 1) := by decide +kernel
theorem dX10_boat_46 : decode cX10_boat 46 = .ok (.invokevirtual 208, 3) := by decide +kernel
theorem dX10_boat_49 : decode cX10_boat 49 = .ok (.aload_n 0, 1) := by decide +kernel
theorem dX10_boat_50 : decode cX10_boat 50 = .ok (.getfield 47, 3) := by decide +kernel
theorem dX10_boat_53 : decode cX10_boat 53 = .ok (.invokevirtual 210, 3) := by decide +kernel
theorem dX10_boat_56 : decode cX10_boat 56 = .ok (.ireturn, 1) := by decide +kernel
theorem dX10_addRule_0 : decode cX10_addRule 0 = .ok (.iload_n 1, 1) := by decide +kernel
theorem dX10_addRule_1 : decode cX10_addRule 1 = .ok (.iload_n 2, 1) := by decide +kernel
theorem dX10_addRule_2 : decode cX10_addRule 2 = .ok (.invokestatic 214, 3) := by decide +kernel
theorem dX10_addRule_5 : decode cX10_addRule 5 = .ok (.ifCond .eq 21, 3) := by decide +kernel
theorem dX10_addRule_8 : decode cX10_addRule 8 = .ok (.iload_n 3, 1) := by decide +kernel
theorem dX10_addRule_9 : decode cX10_addRule 9 = .ok (.iload 4, 2) := by decide +kernel
theorem dX10_addRule_11 : decode cX10_addRule 11 = .ok (.if_icmp .gt 15, 3) := by decide +kernel
theorem dX10_addRule_14 : decode cX10_addRule 14 = .ok (.iload 5, 2) := by decide +kernel
theorem dX10_addRule_16 : decode cX10_addRule 16 = .ok (.iconst 0, 1) := by decide +kernel
theorem dX10_addRule_17 : decode cX10_addRule 17 = .ok (.sipush 300, 3) := by decide +kernel
theorem dX10_addRule_20 : decode cX10_addRule 20 = .ok (.invokestatic 95, 3) := by decide +kernel
theorem dX10_addRule_23 : decode cX10_addRule 23 = .ok (.ifCond .ne 13, 3) := by decide +kernel
theorem dX10_addRule_26 : decode cX10_addRule 26 = .ok (.new 99, 3) := by decide +kernel
theorem dX10_addRule_29 : decode cX10_addRule 29 = .ok (.dup, 1) := by decide +kernel
theorem dX10_addRule_30 : decode cX10_addRule 30 = .ok (.ldc 218, 2) := by decide +kernel
theorem dX10_addRule_32 : decode cX10_addRule 32 = .ok (.invokespecial 103, 3) := by decide +kernel
theorem dX10_addRule_35 : decode cX10_addRule 35 = .ok (.athrow, 1) := by decide +kernel
theorem dX10_addRule_36 : decode cX10_addRule 36 = .ok (.aload_n 0, 1) := by decide +kernel
theorem dX10_addRule_37 : decode cX10_addRule 37 = .ok (.getfield 54, 3) := by decide +kernel
theorem dX10_addRule_40 : decode cX10_addRule 40 = .ok (.getfield 220, 3) := by decide +kernel
theorem dX10_addRule_43 : decode cX10_addRule 43 = .ok (.bipush 12, 2) := by decide +kernel
theorem dX10_addRule_45 : decode cX10_addRule 45 = .ok (.if_icmp .lt 13, 3) := by decide +kernel
theorem dX10_addRule_48 : decode cX10_addRule 48 = .ok (.new 134, 3) := by decide +kernel
theorem dX10_addRule_51 : decode cX10_addRule 51 = .ok (.dup, 1) := by decide +kernel
theorem dX10_addRule_52 : decode cX10_addRule 52 = .ok (.ldc 221, 2) := by decide +kernel
theorem dX10_addRule_54 : decode cX10_addRule 54 = .ok (.invokespecial 138, 3) := by decide +kernel
theorem dX10_addRule_57 : decode cX10_addRule 57 = .ok (.athrow, 1) := by decide +kernel
theorem dX10_addRule_58 : decode cX10_addRule 58 = .ok (.aload_n 0, 1) := by decide +kernel
theorem dX10_addRule_59 : decode cX10_addRule 59 = .ok (.getfield 54, 3) := by decide +kernel
theorem dX10_addRule_62 : decode cX10_addRule 62 = .ok (.iload_n 1, 1) := by decide +kernel
theorem dX10_addRule_63 : decode cX10_addRule 63 = .ok (.iload_n 2, 1) := by decide +kernel
theorem dX10_addRule_64 : decode cX10_addRule 64 = .ok (.iload_n 3, 1) := by decide +kernel
theorem dX10_addRule_65 : decode cX10_addRule 65 = .ok (.iload 4, 2) := by decide +kernel
theorem dX10_addRule_67 : decode cX10_addRule 67 = .ok (.iload 5, 2) := by decide +kernel
theorem dX10_addRule_69 : decode cX10_addRule 69 = .ok (.invokevirtual 223, 3) := by decide +kernel
theorem dX10_addRule_72 : decode cX10_addRule 72 = .ok (.ireturn, 1) := by decide +kernel
theorem dX10_mayWaive_0 : decode cX10_mayWaive 0 = .ok (.iload_n 1, 1) := by decide +kernel
theorem dX10_mayWaive_1 : decode cX10_mayWaive 1 = .ok (.aload_n 0, 1) := by decide +kernel
theorem dX10_mayWaive_2 : decode cX10_mayWaive 2 = .ok (.getfield 54, 3) := by decide +kernel
theorem dX10_mayWaive_5 : decode cX10_mayWaive 5 = .ok (.getfield 220, 3) := by decide +kernel
theorem dX10_mayWaive_8 : decode cX10_mayWaive 8 = .ok (.invokestatic 90, 3) := by decide +kernel
theorem dX10_mayWaive_11 : decode cX10_mayWaive 11 = .ok (.ifCond .ne 13, 3) := by decide +kernel
theorem dX10_mayWaive_14 : decode cX10_mayWaive 14 = .ok (.new 142, 3) := by decide +kernel
theorem dX10_mayWaive_17 : decode cX10_mayWaive 17 = .ok (.dup, 1) := by decide +kernel
theorem dX10_mayWaive_18 : decode cX10_mayWaive 18 = .ok (.ldc 226, 2) := by decide +kernel
theorem dX10_mayWaive_20 : decode cX10_mayWaive 20 = .ok (.invokespecial 146, 3) := by decide +kernel
theorem dX10_mayWaive_23 : decode cX10_mayWaive 23 = .ok (.athrow, 1) := by decide +kernel
theorem dX10_mayWaive_24 : decode cX10_mayWaive 24 = .ok (.iload_n 2, 1) := by decide +kernel
theorem dX10_mayWaive_25 : decode cX10_mayWaive 25 = .ok (.bipush 6, 2) := by decide +kernel
theorem dX10_mayWaive_27 : decode cX10_mayWaive 27 = .ok (.invokestatic 90, 3) := by decide +kernel
theorem dX10_mayWaive_30 : decode cX10_mayWaive 30 = .ok (.ifCond .ne 13, 3) := by decide +kernel
theorem dX10_mayWaive_33 : decode cX10_mayWaive 33 = .ok (.new 99, 3) := by decide +kernel
theorem dX10_mayWaive_36 : decode cX10_mayWaive 36 = .ok (.dup, 1) := by decide +kernel
theorem dX10_mayWaive_37 : decode cX10_mayWaive 37 = .ok (.ldc 228, 2) := by decide +kernel
theorem dX10_mayWaive_39 : decode cX10_mayWaive 39 = .ok (.invokespecial 103, 3) := by decide +kernel
theorem dX10_mayWaive_42 : decode cX10_mayWaive 42 = .ok (.athrow, 1) := by decide +kernel
theorem dX10_mayWaive_43 : decode cX10_mayWaive 43 = .ok (.aload_n 0, 1) := by decide +kernel
theorem dX10_mayWaive_44 : decode cX10_mayWaive 44 = .ok (.getfield 54, 3) := by decide +kernel
theorem dX10_mayWaive_47 : decode cX10_mayWaive 47 = .ok (.iload_n 1, 1) := by decide +kernel
theorem dX10_mayWaive_48 : decode cX10_mayWaive 48 = .ok (.iload_n 2, 1) := by decide +kernel
theorem dX10_mayWaive_49 : decode cX10_mayWaive 49 = .ok (.invokevirtual 230, 3) := by decide +kernel
theorem dX10_mayWaive_52 : decode cX10_mayWaive 52 = .ok (.istore_n 3, 1) := by decide +kernel
theorem dX10_mayWaive_53 : decode cX10_mayWaive 53 = .ok (.aload_n 0, 1) := by decide +kernel
theorem dX10_mayWaive_54 : decode cX10_mayWaive 54 = .ok (.getfield 54, 3) := by decide +kernel
theorem dX10_mayWaive_57 : decode cX10_mayWaive 57 = .ok (.getfield 233, 3) := by decide +kernel
theorem dX10_mayWaive_60 : decode cX10_mayWaive 60 = .ok (.iload_n 1, 1) := by decide +kernel
theorem dX10_mayWaive_61 : decode cX10_mayWaive 61 = .ok (.dup2, 1) := by decide +kernel
theorem dX10_mayWaive_62 : decode cX10_mayWaive 62 = .ok (.iaload, 1) := by decide +kernel
theorem dX10_mayWaive_63 : decode cX10_mayWaive 63 = .ok (.iconst 1, 1) := by decide +kernel
theorem dX10_mayWaive_64 : decode cX10_mayWaive 64 = .ok (.iload_n 2, 1) := by decide +kernel
theorem dX10_mayWaive_65 : decode cX10_mayWaive 65 = .ok (.ishl, 1) := by decide +kernel
theorem dX10_mayWaive_66 : decode cX10_mayWaive 66 = .ok (.ior, 1) := by decide +kernel
theorem dX10_mayWaive_67 : decode cX10_mayWaive 67 = .ok (.iastore, 1) := by decide +kernel
theorem dX10_mayWaive_68 : decode cX10_mayWaive 68 = .ok (.iload_n 3, 1) := by decide +kernel
theorem dX10_mayWaive_69 : decode cX10_mayWaive 69 = .ok (.ifCond .ne 7, 3) := by decide +kernel
theorem dX10_mayWaive_72 : decode cX10_mayWaive 72 = .ok (.iconst 1, 1) := by decide +kernel
theorem dX10_mayWaive_73 : decode cX10_mayWaive 73 = .ok (.goto 4, 3) := by decide +kernel
theorem dX10_mayWaive_76 : decode cX10_mayWaive 76 = .ok (.iconst 0, 1) := by decide +kernel
theorem dX10_mayWaive_77 : decode cX10_mayWaive 77 = .ok (.ireturn, 1) := by decide +kernel
theorem dX10_waive_0 : decode cX10_waive 0 = .ok (.iload_n 1, 1) := by decide +kernel
theorem dX10_waive_1 : decode cX10_waive 1 = .ok (.aload_n 0, 1) := by decide +kernel
theorem dX10_waive_2 : decode cX10_waive 2 = .ok (.getfield 54, 3) := by decide +kernel
theorem dX10_waive_5 : decode cX10_waive 5 = .ok (.getfield 220, 3) := by decide +kernel
theorem dX10_waive_8 : decode cX10_waive 8 = .ok (.invokestatic 90, 3) := by decide +kernel
theorem dX10_waive_11 : decode cX10_waive 11 = .ok (.ifCond .ne 13, 3) := by decide +kernel
theorem dX10_waive_14 : decode cX10_waive 14 = .ok (.new 142, 3) := by decide +kernel
theorem dX10_waive_17 : decode cX10_waive 17 = .ok (.dup, 1) := by decide +kernel
theorem dX10_waive_18 : decode cX10_waive 18 = .ok (.ldc 226, 2) := by decide +kernel
theorem dX10_waive_20 : decode cX10_waive 20 = .ok (.invokespecial 146, 3) := by decide +kernel
theorem dX10_waive_23 : decode cX10_waive 23 = .ok (.athrow, 1) := by decide +kernel
theorem dX10_waive_24 : decode cX10_waive 24 = .ok (.iload_n 2, 1) := by decide +kernel
theorem dX10_waive_25 : decode cX10_waive 25 = .ok (.bipush 6, 2) := by decide +kernel
theorem dX10_waive_27 : decode cX10_waive 27 = .ok (.invokestatic 90, 3) := by decide +kernel
theorem dX10_waive_30 : decode cX10_waive 30 = .ok (.ifCond .eq 14, 3) := by decide +kernel
theorem dX10_waive_33 : decode cX10_waive 33 = .ok (.iload_n 3, 1) := by decide +kernel
theorem dX10_waive_34 : decode cX10_waive 34 = .ok (.sipush (-600), 3) := by decide +kernel
theorem dX10_waive_37 : decode cX10_waive 37 = .ok (.iconst 0, 1) := by decide +kernel
theorem dX10_waive_38 : decode cX10_waive 38 = .ok (.invokestatic 95, 3) := by decide +kernel
theorem dX10_waive_41 : decode cX10_waive 41 = .ok (.ifCond .ne 13, 3) := by decide +kernel
theorem dX10_waive_44 : decode cX10_waive 44 = .ok (.new 99, 3) := by decide +kernel
theorem dX10_waive_47 : decode cX10_waive 47 = .ok (.dup, 1) := by decide +kernel
theorem dX10_waive_48 : decode cX10_waive 48 = .ok (.ldc 236, 2) := by decide +kernel
theorem dX10_waive_50 : decode cX10_waive 50 = .ok (.invokespecial 103, 3) := by decide +kernel
theorem dX10_waive_53 : decode cX10_waive 53 = .ok (.athrow, 1) := by decide +kernel
theorem dX10_waive_54 : decode cX10_waive 54 = .ok (.aload_n 0, 1) := by decide +kernel
theorem dX10_waive_55 : decode cX10_waive 55 = .ok (.getfield 54, 3) := by decide +kernel
theorem dX10_waive_58 : decode cX10_waive 58 = .ok (.iload_n 1, 1) := by decide +kernel
theorem dX10_waive_59 : decode cX10_waive 59 = .ok (.iload_n 2, 1) := by decide +kernel
theorem dX10_waive_60 : decode cX10_waive 60 = .ok (.invokevirtual 230, 3) := by decide +kernel
theorem dX10_waive_63 : decode cX10_waive 63 = .ok (.ifCond .ne 13, 3) := by decide +kernel
theorem dX10_waive_66 : decode cX10_waive 66 = .ok (.new 168, 3) := by decide +kernel
theorem dX10_waive_69 : decode cX10_waive 69 = .ok (.dup, 1) := by decide +kernel
theorem dX10_waive_70 : decode cX10_waive 70 = .ok (.ldc 238, 2) := by decide +kernel
theorem dX10_waive_72 : decode cX10_waive 72 = .ok (.invokespecial 170, 3) := by decide +kernel
theorem dX10_waive_75 : decode cX10_waive 75 = .ok (.athrow, 1) := by decide +kernel
theorem dX10_waive_76 : decode cX10_waive 76 = .ok (.aload_n 0, 1) := by decide +kernel
theorem dX10_waive_77 : decode cX10_waive 77 = .ok (.iload_n 1, 1) := by decide +kernel
theorem dX10_waive_78 : decode cX10_waive 78 = .ok (.invokevirtual 240, 3) := by decide +kernel
theorem dX10_waive_81 : decode cX10_waive 81 = .ok (.istore 4, 2) := by decide +kernel
theorem dX10_waive_83 : decode cX10_waive 83 = .ok (.aload_n 0, 1) := by decide +kernel
theorem dX10_waive_84 : decode cX10_waive 84 = .ok (.getfield 54, 3) := by decide +kernel
theorem dX10_waive_87 : decode cX10_waive 87 = .ok (.getfield 243, 3) := by decide +kernel
theorem dX10_waive_90 : decode cX10_waive 90 = .ok (.iload_n 1, 1) := by decide +kernel
theorem dX10_waive_91 : decode cX10_waive 91 = .ok (.iload_n 2, 1) := by decide +kernel
theorem dX10_waive_92 : decode cX10_waive 92 = .ok (.iastore, 1) := by decide +kernel
theorem dX10_waive_93 : decode cX10_waive 93 = .ok (.aload_n 0, 1) := by decide +kernel
theorem dX10_waive_94 : decode cX10_waive 94 = .ok (.getfield 54, 3) := by decide +kernel
theorem dX10_waive_97 : decode cX10_waive 97 = .ok (.getfield 246, 3) := by decide +kernel
theorem dX10_waive_100 : decode cX10_waive 100 = .ok (.iload_n 1, 1) := by decide +kernel
theorem dX10_waive_101 : decode cX10_waive 101 = .ok (.iload_n 3, 1) := by decide +kernel
theorem dX10_waive_102 : decode cX10_waive 102 = .ok (.iastore, 1) := by decide +kernel
theorem dX10_waive_103 : decode cX10_waive 103 = .ok (.iload 4, 2) := by decide +kernel
theorem dX10_waive_105 : decode cX10_waive 105 = .ok (.ireturn, 1) := by decide +kernel
theorem dX10_go_0 : decode cX10_go 0 = .ok (.iload_n 1, 1) := by decide +kernel
theorem dX10_go_1 : decode cX10_go 1 = .ok (.bipush 6, 2) := by decide +kernel
theorem dX10_go_3 : decode cX10_go 3 = .ok (.invokestatic 90, 3) := by decide +kernel
theorem dX10_go_6 : decode cX10_go 6 = .ok (.ifCond .ne 13, 3) := by decide +kernel
theorem dX10_go_9 : decode cX10_go 9 = .ok (.new 99, 3) := by decide +kernel
theorem dX10_go_12 : decode cX10_go 12 = .ok (.dup, 1) := by decide +kernel
theorem dX10_go_13 : decode cX10_go 13 = .ok (.ldc 228, 2) := by decide +kernel
theorem dX10_go_15 : decode cX10_go 15 = .ok (.invokespecial 103, 3) := by decide +kernel
theorem dX10_go_18 : decode cX10_go 18 = .ok (.athrow, 1) := by decide +kernel
theorem dX10_go_19 : decode cX10_go 19 = .ok (.aload_n 0, 1) := by decide +kernel
theorem dX10_go_20 : decode cX10_go 20 = .ok (.getfield 79, 3) := by decide +kernel
theorem dX10_go_23 : decode cX10_go 23 = .ok (.iload_n 1, 1) := by decide +kernel
theorem dX10_go_24 : decode cX10_go 24 = .ok (.baload, 1) := by decide +kernel
theorem dX10_go_25 : decode cX10_go 25 = .ok (.istore_n 3, 1) := by decide +kernel
theorem dX10_go_26 : decode cX10_go 26 = .ok (.aload_n 0, 1) := by decide +kernel
theorem dX10_go_27 : decode cX10_go 27 = .ok (.getfield 79, 3) := by decide +kernel
theorem dX10_go_30 : decode cX10_go 30 = .ok (.iload_n 1, 1) := by decide +kernel
theorem dX10_go_31 : decode cX10_go 31 = .ok (.iload_n 2, 1) := by decide +kernel
theorem dX10_go_32 : decode cX10_go 32 = .ok (.bastore, 1) := by decide +kernel
theorem dX10_go_33 : decode cX10_go 33 = .ok (.iload_n 3, 1) := by decide +kernel
theorem dX10_go_34 : decode cX10_go 34 = .ok (.ireturn, 1) := by decide +kernel
theorem dX10_value_0 : decode cX10_value 0 = .ok (.iload_n 1, 1) := by decide +kernel
theorem dX10_value_1 : decode cX10_value 1 = .ok (.aload_n 0, 1) := by decide +kernel
theorem dX10_value_2 : decode cX10_value 2 = .ok (.getfield 54, 3) := by decide +kernel
theorem dX10_value_5 : decode cX10_value 5 = .ok (.getfield 220, 3) := by decide +kernel
theorem dX10_value_8 : decode cX10_value 8 = .ok (.invokestatic 90, 3) := by decide +kernel
theorem dX10_value_11 : decode cX10_value 11 = .ok (.ifCond .ne 13, 3) := by decide +kernel
theorem dX10_value_14 : decode cX10_value 14 = .ok (.new 142, 3) := by decide +kernel
theorem dX10_value_17 : decode cX10_value 17 = .ok (.dup, 1) := by decide +kernel
theorem dX10_value_18 : decode cX10_value 18 = .ok (.ldc 226, 2) := by decide +kernel
theorem dX10_value_20 : decode cX10_value 20 = .ok (.invokespecial 146, 3) := by decide +kernel
theorem dX10_value_23 : decode cX10_value 23 = .ok (.athrow, 1) := by decide +kernel
theorem dX10_value_24 : decode cX10_value 24 = .ok (.aload_n 0, 1) := by decide +kernel
theorem dX10_value_25 : decode cX10_value 25 = .ok (.iload_n 1, 1) := by decide +kernel
theorem dX10_value_26 : decode cX10_value 26 = .ok (.invokevirtual 249, 3) := by decide +kernel
theorem dX10_value_29 : decode cX10_value 29 = .ok (.ireturn, 1) := by decide +kernel
theorem dX10_holdsFor_0 : decode cX10_holdsFor 0 = .ok (.iload_n 1, 1) := by decide +kernel
theorem dX10_holdsFor_1 : decode cX10_holdsFor 1 = .ok (.aload_n 0, 1) := by decide +kernel
theorem dX10_holdsFor_2 : decode cX10_holdsFor 2 = .ok (.getfield 54, 3) := by decide +kernel
theorem dX10_holdsFor_5 : decode cX10_holdsFor 5 = .ok (.getfield 220, 3) := by decide +kernel
theorem dX10_holdsFor_8 : decode cX10_holdsFor 8 = .ok (.invokestatic 90, 3) := by decide +kernel
theorem dX10_holdsFor_11 : decode cX10_holdsFor 11 = .ok (.ifCond .ne 13, 3) := by decide +kernel
theorem dX10_holdsFor_14 : decode cX10_holdsFor 14 = .ok (.new 142, 3) := by decide +kernel
theorem dX10_holdsFor_17 : decode cX10_holdsFor 17 = .ok (.dup, 1) := by decide +kernel
theorem dX10_holdsFor_18 : decode cX10_holdsFor 18 = .ok (.ldc 226, 2) := by decide +kernel
theorem dX10_holdsFor_20 : decode cX10_holdsFor 20 = .ok (.invokespecial 146, 3) := by decide +kernel
theorem dX10_holdsFor_23 : decode cX10_holdsFor 23 = .ok (.athrow, 1) := by decide +kernel
theorem dX10_holdsFor_24 : decode cX10_holdsFor 24 = .ok (.aload_n 0, 1) := by decide +kernel
theorem dX10_holdsFor_25 : decode cX10_holdsFor 25 = .ok (.getfield 54, 3) := by decide +kernel
theorem dX10_holdsFor_28 : decode cX10_holdsFor 28 = .ok (.getfield 252, 3) := by decide +kernel
theorem dX10_holdsFor_31 : decode cX10_holdsFor 31 = .ok (.iload_n 1, 1) := by decide +kernel
theorem dX10_holdsFor_32 : decode cX10_holdsFor 32 = .ok (.iaload, 1) := by decide +kernel
theorem dX10_holdsFor_33 : decode cX10_holdsFor 33 = .ok (.ireturn, 1) := by decide +kernel
theorem dX10_isMet_0 : decode cX10_isMet 0 = .ok (.iload_n 1, 1) := by decide +kernel
theorem dX10_isMet_1 : decode cX10_isMet 1 = .ok (.aload_n 0, 1) := by decide +kernel
theorem dX10_isMet_2 : decode cX10_isMet 2 = .ok (.getfield 54, 3) := by decide +kernel
theorem dX10_isMet_5 : decode cX10_isMet 5 = .ok (.getfield 220, 3) := by decide +kernel
theorem dX10_isMet_8 : decode cX10_isMet 8 = .ok (.invokestatic 90, 3) := by decide +kernel
theorem dX10_isMet_11 : decode cX10_isMet 11 = .ok (.ifCond .ne 13, 3) := by decide +kernel
theorem dX10_isMet_14 : decode cX10_isMet 14 = .ok (.new 142, 3) := by decide +kernel
theorem dX10_isMet_17 : decode cX10_isMet 17 = .ok (.dup, 1) := by decide +kernel
theorem dX10_isMet_18 : decode cX10_isMet 18 = .ok (.ldc 226, 2) := by decide +kernel
theorem dX10_isMet_20 : decode cX10_isMet 20 = .ok (.invokespecial 146, 3) := by decide +kernel
theorem dX10_isMet_23 : decode cX10_isMet 23 = .ok (.athrow, 1) := by decide +kernel
theorem dX10_isMet_24 : decode cX10_isMet 24 = .ok (.aload_n 0, 1) := by decide +kernel
theorem dX10_isMet_25 : decode cX10_isMet 25 = .ok (.iload_n 1, 1) := by decide +kernel
theorem dX10_isMet_26 : decode cX10_isMet 26 = .ok (.invokevirtual 255, 3) := by decide +kernel
theorem dX10_isMet_29 : decode cX10_isMet 29 = .ok (.ireturn, 1) := by decide +kernel
theorem dX10_begin_0 : decode cX10_begin 0 = .ok (.iload_n 1, 1) := by decide +kernel
theorem dX10_begin_1 : decode cX10_begin 1 = .ok (.sipush (-600), 3) := by decide +kernel
theorem dX10_begin_4 : decode cX10_begin 4 = .ok (.bipush (-10), 2) := by decide +kernel
theorem dX10_begin_6 : decode cX10_begin 6 = .ok (.invokestatic 95, 3) := by decide +kernel
theorem dX10_begin_9 : decode cX10_begin 9 = .ok (.ifCond .eq 25, 3) := by decide +kernel
theorem dX10_begin_12 : decode cX10_begin 12 = .ok (.iload_n 2, 1) := by decide +kernel
theorem dX10_begin_13 : decode cX10_begin 13 = .ok (.iconst 0, 1) := by decide +kernel
theorem dX10_begin_14 : decode cX10_begin 14 = .ok (.sipush 5000, 3) := by decide +kernel
theorem dX10_begin_17 : decode cX10_begin 17 = .ok (.invokestatic 95, 3) := by decide +kernel
theorem dX10_begin_20 : decode cX10_begin 20 = .ok (.ifCond .eq 14, 3) := by decide +kernel
theorem dX10_begin_23 : decode cX10_begin 23 = .ok (.iload_n 3, 1) := by decide +kernel
theorem dX10_begin_24 : decode cX10_begin 24 = .ok (.iload_n 2, 1) := by decide +kernel
theorem dX10_begin_25 : decode cX10_begin 25 = .ok (.sipush 5000, 3) := by decide +kernel
theorem dX10_begin_28 : decode cX10_begin 28 = .ok (.invokestatic 95, 3) := by decide +kernel
theorem dX10_begin_31 : decode cX10_begin 31 = .ok (.ifCond .ne 13, 3) := by decide +kernel
theorem dX10_begin_34 : decode cX10_begin 34 = .ok (.new 99, 3) := by decide +kernel
theorem dX10_begin_37 : decode cX10_begin 37 = .ok (.dup, 1) := by decide +kernel
theorem dX10_begin_38 : decode cX10_begin 38 = .ok (.ldc 125, 2) := by decide +kernel
theorem dX10_begin_40 : decode cX10_begin 40 = .ok (.invokespecial 103, 3) := by decide +kernel
theorem dX10_begin_43 : decode cX10_begin 43 = .ok (.athrow, 1) := by decide +kernel
theorem dX10_begin_44 : decode cX10_begin 44 = .ok (.aload_n 0, 1) := by decide +kernel
theorem dX10_begin_45 : decode cX10_begin 45 = .ok (.invokevirtual 130, 3) := by decide +kernel
theorem dX10_begin_48 : decode cX10_begin 48 = .ok (.ifCond .eq 14, 3) := by decide +kernel
theorem dX10_begin_51 : decode cX10_begin 51 = .ok (.new 134, 3) := by decide +kernel
theorem dX10_begin_54 : decode cX10_begin 54 = .ok (.dup, 1) := by decide +kernel
theorem dX10_begin_55 : decode cX10_begin 55 = .ok (.ldc_w 258, 3) := by decide +kernel
theorem dX10_begin_58 : decode cX10_begin 58 = .ok (.invokespecial 138, 3) := by decide +kernel
theorem dX10_begin_61 : decode cX10_begin 61 = .ok (.athrow, 1) := by decide +kernel
theorem dX10_begin_62 : decode cX10_begin 62 = .ok (.aload_n 0, 1) := by decide +kernel
theorem dX10_begin_63 : decode cX10_begin 63 = .ok (.getfield 61, 3) := by decide +kernel
theorem dX10_begin_66 : decode cX10_begin 66 = .ok (.iload_n 1, 1) := by decide +kernel
theorem dX10_begin_67 : decode cX10_begin 67 = .ok (.aload_n 0, 1) := by decide +kernel
theorem dX10_begin_68 : decode cX10_begin 68 = .ok (.getfield 87, 3) := by decide +kernel
theorem dX10_begin_71 : decode cX10_begin 71 = .ok (.iload_n 2, 1) := by decide +kernel
theorem dX10_begin_72 : decode cX10_begin 72 = .ok (.iadd, 1) := by decide +kernel
theorem dX10_begin_73 : decode cX10_begin 73 = .ok (.aload_n 0, 1) := by decide +kernel
theorem dX10_begin_74 : decode cX10_begin 74 = .ok (.getfield 87, 3) := by decide +kernel
theorem dX10_begin_77 : decode cX10_begin 77 = .ok (.iload_n 3, 1) := by decide +kernel
theorem dX10_begin_78 : decode cX10_begin 78 = .ok (.iadd, 1) := by decide +kernel
theorem dX10_begin_79 : decode cX10_begin 79 = .ok (.invokevirtual 260, 3) := by decide +kernel
theorem dX10_begin_82 : decode cX10_begin 82 = .ok (.aload_n 0, 1) := by decide +kernel
theorem dX10_begin_83 : decode cX10_begin 83 = .ok (.getfield 19, 3) := by decide +kernel
theorem dX10_begin_86 : decode cX10_begin 86 = .ok (.invokevirtual 263, 3) := by decide +kernel
theorem dX10_begin_89 : decode cX10_begin 89 = .ok (.aload_n 0, 1) := by decide +kernel
theorem dX10_begin_90 : decode cX10_begin 90 = .ok (.getfield 54, 3) := by decide +kernel
theorem dX10_begin_93 : decode cX10_begin 93 = .ok (.invokevirtual 266, 3) := by decide +kernel
theorem dX10_begin_96 : decode cX10_begin 96 = .ok (.aload_n 0, 1) := by decide +kernel
theorem dX10_begin_97 : decode cX10_begin 97 = .ok (.getfield 75, 3) := by decide +kernel
theorem dX10_begin_100 : decode cX10_begin 100 = .ok (.aload_n 0, 1) := by decide +kernel
theorem dX10_begin_101 : decode cX10_begin 101 = .ok (.getfield 87, 3) := by decide +kernel
theorem dX10_begin_104 : decode cX10_begin 104 = .ok (.bipush 67, 2) := by decide +kernel
theorem dX10_begin_106 : decode cX10_begin 106 = .ok (.bipush 99, 2) := by decide +kernel
theorem dX10_begin_108 : decode cX10_begin 108 = .ok (.invokevirtual 269, 3) := by decide +kernel
theorem dX10_begin_111 : decode cX10_begin 111 = .ok (.aload_n 0, 1) := by decide +kernel
theorem dX10_begin_112 : decode cX10_begin 112 = .ok (.getfield 87, 3) := by decide +kernel
theorem dX10_begin_115 : decode cX10_begin 115 = .ok (.iload_n 1, 1) := by decide +kernel
theorem dX10_begin_116 : decode cX10_begin 116 = .ok (.isub, 1) := by decide +kernel
theorem dX10_begin_117 : decode cX10_begin 117 = .ok (.ireturn, 1) := by decide +kernel
theorem dX10_recycle_0 : decode cX10_recycle 0 = .ok (.iload_n 1, 1) := by decide +kernel
theorem dX10_recycle_1 : decode cX10_recycle 1 = .ok (.aload_n 0, 1) := by decide +kernel
theorem dX10_recycle_2 : decode cX10_recycle 2 = .ok (.getfield 26, 3) := by decide +kernel
theorem dX10_recycle_5 : decode cX10_recycle 5 = .ok (.getfield 171, 3) := by decide +kernel
theorem dX10_recycle_8 : decode cX10_recycle 8 = .ok (.invokestatic 90, 3) := by decide +kernel
theorem dX10_recycle_11 : decode cX10_recycle 11 = .ok (.ifCond .ne 14, 3) := by decide +kernel
theorem dX10_recycle_14 : decode cX10_recycle 14 = .ok (.new 142, 3) := by decide +kernel
theorem dX10_recycle_17 : decode cX10_recycle 17 = .ok (.dup, 1) := by decide +kernel
theorem dX10_recycle_18 : decode cX10_recycle 18 = .ok (.ldc_w 273, 3) := by decide +kernel
theorem dX10_recycle_21 : decode cX10_recycle 21 = .ok (.invokespecial 146, 3) := by decide +kernel
theorem dX10_recycle_24 : decode cX10_recycle 24 = .ok (.athrow, 1) := by decide +kernel
theorem dX10_recycle_25 : decode cX10_recycle 25 = .ok (.aload_n 0, 1) := by decide +kernel
theorem dX10_recycle_26 : decode cX10_recycle 26 = .ok (.invokevirtual 275, 3) := by decide +kernel
theorem dX10_recycle_29 : decode cX10_recycle 29 = .ok (.ifCond .eq 22, 3) := by decide +kernel
theorem dX10_recycle_32 : decode cX10_recycle 32 = .ok (.aload_n 0, 1) := by decide +kernel
theorem dX10_recycle_33 : decode cX10_recycle 33 = .ok (.getfield 61, 3) := by decide +kernel
theorem dX10_recycle_36 : decode cX10_recycle 36 = .ok (.getfield 278, 3) := by decide +kernel
theorem dX10_recycle_39 : decode cX10_recycle 39 = .ok (.aload_n 0, 1) := by decide +kernel
theorem dX10_recycle_40 : decode cX10_recycle 40 = .ok (.getfield 26, 3) := by decide +kernel
theorem dX10_recycle_43 : decode cX10_recycle 43 = .ok (.getfield 281, 3) := by decide +kernel
theorem dX10_recycle_46 : decode cX10_recycle 46 = .ok (.iload_n 1, 1) := by decide +kernel
theorem dX10_recycle_47 : decode cX10_recycle 47 = .ok (.iaload, 1) := by decide +kernel
theorem dX10_recycle_48 : decode cX10_recycle 48 = .ok (.if_icmp .gt 14, 3) := by decide +kernel
theorem dX10_recycle_51 : decode cX10_recycle 51 = .ok (.new 168, 3) := by decide +kernel
theorem dX10_recycle_54 : decode cX10_recycle 54 = .ok (.dup, 1) := by decide +kernel
theorem dX10_recycle_55 : decode cX10_recycle 55 = .ok (.ldc_w 284, 3) := by decide +kernel
theorem dX10_recycle_58 : decode cX10_recycle 58 = .ok (.invokespecial 170, 3) := by decide +kernel
theorem dX10_recycle_61 : decode cX10_recycle 61 = .ok (.athrow, 1) := by decide +kernel
theorem dX10_recycle_62 : decode cX10_recycle 62 = .ok (.aload_n 0, 1) := by decide +kernel
theorem dX10_recycle_63 : decode cX10_recycle 63 = .ok (.getfield 61, 3) := by decide +kernel
theorem dX10_recycle_66 : decode cX10_recycle 66 = .ok (.aload_n 0, 1) := by decide +kernel
theorem dX10_recycle_67 : decode cX10_recycle 67 = .ok (.getfield 26, 3) := by decide +kernel
theorem dX10_recycle_70 : decode cX10_recycle 70 = .ok (.getfield 281, 3) := by decide +kernel
theorem dX10_recycle_73 : decode cX10_recycle 73 = .ok (.iload_n 1, 1) := by decide +kernel
theorem dX10_recycle_74 : decode cX10_recycle 74 = .ok (.iaload, 1) := by decide +kernel
theorem dX10_recycle_75 : decode cX10_recycle 75 = .ok (.invokevirtual 286, 3) := by decide +kernel
theorem dX10_recycle_78 : decode cX10_recycle 78 = .ok (.aload_n 0, 1) := by decide +kernel
theorem dX10_recycle_79 : decode cX10_recycle 79 = .ok (.getfield 54, 3) := by decide +kernel
theorem dX10_recycle_82 : decode cX10_recycle 82 = .ok (.invokevirtual 266, 3) := by decide +kernel
theorem dX10_recycle_85 : decode cX10_recycle 85 = .ok (.aload_n 0, 1) := by decide +kernel
theorem dX10_recycle_86 : decode cX10_recycle 86 = .ok (.getfield 75, 3) := by decide +kernel
theorem dX10_recycle_89 : decode cX10_recycle 89 = .ok (.aload_n 0, 1) := by decide +kernel
theorem dX10_recycle_90 : decode cX10_recycle 90 = .ok (.getfield 87, 3) := by decide +kernel
theorem dX10_recycle_93 : decode cX10_recycle 93 = .ok (.bipush 82, 2) := by decide +kernel
theorem dX10_recycle_95 : decode cX10_recycle 95 = .ok (.bipush 99, 2) := by decide +kernel
theorem dX10_recycle_97 : decode cX10_recycle 97 = .ok (.invokevirtual 269, 3) := by decide +kernel
theorem dX10_recycle_100 : decode cX10_recycle 100 = .ok (.aload_n 0, 1) := by decide +kernel
theorem dX10_recycle_101 : decode cX10_recycle 101 = .ok (.getfield 19, 3) := by decide +kernel
theorem dX10_recycle_104 : decode cX10_recycle 104 = .ok (.aload_n 0, 1) := by decide +kernel
theorem dX10_recycle_105 : decode cX10_recycle 105 = .ok (.getfield 26, 3) := by decide +kernel
theorem dX10_recycle_108 : decode cX10_recycle 108 = .ok (.getfield 281, 3) := by decide +kernel
theorem dX10_recycle_111 : decode cX10_recycle 111 = .ok (.iload_n 1, 1) := by decide +kernel
theorem dX10_recycle_112 : decode cX10_recycle 112 = .ok (.iaload, 1) := by decide +kernel
theorem dX10_recycle_113 : decode cX10_recycle 113 = .ok (.invokevirtual 289, 3) := by decide +kernel
theorem dX10_recycle_116 : decode cX10_recycle 116 = .ok (.ireturn, 1) := by decide +kernel
theorem dX10_scrub_0 : decode cX10_scrub 0 = .ok (.aload_n 0, 1) := by decide +kernel
theorem dX10_scrub_1 : decode cX10_scrub 1 = .ok (.invokevirtual 275, 3) := by decide +kernel
theorem dX10_scrub_4 : decode cX10_scrub 4 = .ok (.ifCond .ne 5, 3) := by decide +kernel
theorem dX10_scrub_7 : decode cX10_scrub 7 = .ok (.iconst 0, 1) := by decide +kernel
theorem dX10_scrub_8 : decode cX10_scrub 8 = .ok (.ireturn, 1) := by decide +kernel
theorem dX10_scrub_9 : decode cX10_scrub 9 = .ok (.aload_n 0, 1) := by decide +kernel
theorem dX10_scrub_10 : decode cX10_scrub 10 = .ok (.getfield 61, 3) := by decide +kernel
theorem dX10_scrub_13 : decode cX10_scrub 13 = .ok (.bipush 99, 2) := by decide +kernel
theorem dX10_scrub_15 : decode cX10_scrub 15 = .ok (.iconst (-1), 1) := by decide +kernel
theorem dX10_scrub_16 : decode cX10_scrub 16 = .ok (.invokevirtual 292, 3) := by decide +kernel
theorem dX10_scrub_19 : decode cX10_scrub 19 = .ok (.aload_n 0, 1) := by decide +kernel
theorem dX10_scrub_20 : decode cX10_scrub 20 = .ok (.getfield 75, 3) := by decide +kernel
theorem dX10_scrub_23 : decode cX10_scrub 23 = .ok (.aload_n 0, 1) := by decide +kernel
theorem dX10_scrub_24 : decode cX10_scrub 24 = .ok (.getfield 87, 3) := by decide +kernel
theorem dX10_scrub_27 : decode cX10_scrub 27 = .ok (.bipush 83, 2) := by decide +kernel
theorem dX10_scrub_29 : decode cX10_scrub 29 = .ok (.bipush 115, 2) := by decide +kernel
theorem dX10_scrub_31 : decode cX10_scrub 31 = .ok (.invokevirtual 269, 3) := by decide +kernel
theorem dX10_scrub_34 : decode cX10_scrub 34 = .ok (.iconst 1, 1) := by decide +kernel
theorem dX10_scrub_35 : decode cX10_scrub 35 = .ok (.ireturn, 1) := by decide +kernel
theorem dX10_pass_0 : decode cX10_pass 0 = .ok (.iload_n 1, 1) := by decide +kernel
theorem dX10_pass_1 : decode cX10_pass 1 = .ok (.iconst 1, 1) := by decide +kernel
theorem dX10_pass_2 : decode cX10_pass 2 = .ok (.sipush 600, 3) := by decide +kernel
theorem dX10_pass_5 : decode cX10_pass 5 = .ok (.invokestatic 95, 3) := by decide +kernel
theorem dX10_pass_8 : decode cX10_pass 8 = .ok (.ifCond .ne 14, 3) := by decide +kernel
theorem dX10_pass_11 : decode cX10_pass 11 = .ok (.new 99, 3) := by decide +kernel
theorem dX10_pass_14 : decode cX10_pass 14 = .ok (.dup, 1) := by decide +kernel
theorem dX10_pass_15 : decode cX10_pass 15 = .ok (.ldc_w 296, 3) := by decide +kernel
theorem dX10_pass_18 : decode cX10_pass 18 = .ok (.invokespecial 103, 3) := by decide +kernel
theorem dX10_pass_21 : decode cX10_pass 21 = .ok (.athrow, 1) := by decide +kernel
theorem dX10_pass_22 : decode cX10_pass 22 = .ok (.aload_n 0, 1) := by decide +kernel
theorem dX10_pass_23 : decode cX10_pass 23 = .ok (.getfield 87, 3) := by decide +kernel
theorem dX10_pass_26 : decode cX10_pass 26 = .ok (.iload_n 1, 1) := by decide +kernel
theorem dX10_pass_27 : decode cX10_pass 27 = .ok (.iadd, 1) := by decide +kernel
theorem dX10_pass_28 : decode cX10_pass 28 = .ok (.ldc 94, 2) := by decide +kernel
theorem dX10_pass_30 : decode cX10_pass 30 = .ok (.if_icmp .le 14, 3) := by decide +kernel
theorem dX10_pass_33 : decode cX10_pass 33 = .ok (.new 134, 3) := by decide +kernel
theorem dX10_pass_36 : decode cX10_pass 36 = .ok (.dup, 1) := by decide +kernel
theorem dX10_pass_37 : decode cX10_pass 37 = .ok (.ldc_w 298, 3) := by decide +kernel
theorem dX10_pass_40 : decode cX10_pass 40 = .ok (.invokespecial 138, 3) := by decide +kernel
theorem dX10_pass_43 : decode cX10_pass 43 = .ok (.athrow, 1) := by decide +kernel
theorem dX10_pass_44 : decode cX10_pass 44 = .ok (.iconst 0, 1) := by decide +kernel
theorem dX10_pass_45 : decode cX10_pass 45 = .ok (.istore_n 2, 1) := by decide +kernel
theorem dX10_pass_46 : decode cX10_pass 46 = .ok (.iload_n 2, 1) := by decide +kernel
theorem dX10_pass_47 : decode cX10_pass 47 = .ok (.iload_n 1, 1) := by decide +kernel
theorem dX10_pass_48 : decode cX10_pass 48 = .ok (.if_icmp .ge 13, 3) := by decide +kernel
theorem dX10_pass_51 : decode cX10_pass 51 = .ok (.aload_n 0, 1) := by decide +kernel
theorem dX10_pass_52 : decode cX10_pass 52 = .ok (.invokevirtual 300, 3) := by decide +kernel
theorem dX10_pass_55 : decode cX10_pass 55 = .ok (.iinc 2 1, 3) := by decide +kernel
theorem dX10_pass_58 : decode cX10_pass 58 = .ok (.goto (-12), 3) := by decide +kernel
theorem dX10_pass_61 : decode cX10_pass 61 = .ok (.aload_n 0, 1) := by decide +kernel
theorem dX10_pass_62 : decode cX10_pass 62 = .ok (.getfield 87, 3) := by decide +kernel
theorem dX10_pass_65 : decode cX10_pass 65 = .ok (.ireturn, 1) := by decide +kernel
theorem dX10_track_0 : decode cX10_track 0 = .ok (.iload_n 1, 1) := by decide +kernel
theorem dX10_track_1 : decode cX10_track 1 = .ok (.iconst 2, 1) := by decide +kernel
theorem dX10_track_2 : decode cX10_track 2 = .ok (.invokestatic 90, 3) := by decide +kernel
theorem dX10_track_5 : decode cX10_track 5 = .ok (.ifCond .eq 16, 3) := by decide +kernel
theorem dX10_track_8 : decode cX10_track 8 = .ok (.iload_n 2, 1) := by decide +kernel
theorem dX10_track_9 : decode cX10_track 9 = .ok (.sipush (-999), 3) := by decide +kernel
theorem dX10_track_12 : decode cX10_track 12 = .ok (.sipush 999, 3) := by decide +kernel
theorem dX10_track_15 : decode cX10_track 15 = .ok (.invokestatic 95, 3) := by decide +kernel
theorem dX10_track_18 : decode cX10_track 18 = .ok (.ifCond .ne 13, 3) := by decide +kernel
theorem dX10_track_21 : decode cX10_track 21 = .ok (.new 99, 3) := by decide +kernel
theorem dX10_track_24 : decode cX10_track 24 = .ok (.dup, 1) := by decide +kernel
theorem dX10_track_25 : decode cX10_track 25 = .ok (.ldc 125, 2) := by decide +kernel
theorem dX10_track_27 : decode cX10_track 27 = .ok (.invokespecial 103, 3) := by decide +kernel
theorem dX10_track_30 : decode cX10_track 30 = .ok (.athrow, 1) := by decide +kernel
theorem dX10_track_31 : decode cX10_track 31 = .ok (.aload_n 0, 1) := by decide +kernel
theorem dX10_track_32 : decode cX10_track 32 = .ok (.getfield 68, 3) := by decide +kernel
theorem dX10_track_35 : decode cX10_track 35 = .ok (.getfield 303, 3) := by decide +kernel
theorem dX10_track_38 : decode cX10_track 38 = .ok (.iload_n 1, 1) := by decide +kernel
theorem dX10_track_39 : decode cX10_track 39 = .ok (.iaload, 1) := by decide +kernel
theorem dX10_track_40 : decode cX10_track 40 = .ok (.istore_n 3, 1) := by decide +kernel
theorem dX10_track_41 : decode cX10_track 41 = .ok (.aload_n 0, 1) := by decide +kernel
theorem dX10_track_42 : decode cX10_track 42 = .ok (.getfield 68, 3) := by decide +kernel
theorem dX10_track_45 : decode cX10_track 45 = .ok (.getfield 303, 3) := by decide +kernel
theorem dX10_track_48 : decode cX10_track 48 = .ok (.iload_n 1, 1) := by decide +kernel
theorem dX10_track_49 : decode cX10_track 49 = .ok (.iload_n 2, 1) := by decide +kernel
theorem dX10_track_50 : decode cX10_track 50 = .ok (.iastore, 1) := by decide +kernel
theorem dX10_track_51 : decode cX10_track 51 = .ok (.iload_n 3, 1) := by decide +kernel
theorem dX10_track_52 : decode cX10_track 52 = .ok (.ireturn, 1) := by decide +kernel
theorem dX10_state_0 : decode cX10_state 0 = .ok (.aload_n 0, 1) := by decide +kernel
theorem dX10_state_1 : decode cX10_state 1 = .ok (.getfield 75, 3) := by decide +kernel
theorem dX10_state_4 : decode cX10_state 4 = .ok (.getfield 306, 3) := by decide +kernel
theorem dX10_state_7 : decode cX10_state 7 = .ok (.ireturn, 1) := by decide +kernel
theorem dX10_count_0 : decode cX10_count 0 = .ok (.aload_n 0, 1) := by decide +kernel
theorem dX10_count_1 : decode cX10_count 1 = .ok (.getfield 75, 3) := by decide +kernel
theorem dX10_count_4 : decode cX10_count 4 = .ok (.getfield 306, 3) := by decide +kernel
theorem dX10_count_7 : decode cX10_count 7 = .ok (.bipush 45, 2) := by decide +kernel
theorem dX10_count_9 : decode cX10_count 9 = .ok (.if_icmp .ne 14, 3) := by decide +kernel
theorem dX10_count_12 : decode cX10_count 12 = .ok (.new 134, 3) := by decide +kernel
theorem dX10_count_15 : decode cX10_count 15 = .ok (.dup, 1) := by decide +kernel
theorem dX10_count_16 : decode cX10_count 16 = .ok (.ldc_w 309, 3) := by decide +kernel
theorem dX10_count_19 : decode cX10_count 19 = .ok (.invokespecial 138, 3) := by decide +kernel
theorem dX10_count_22 : decode cX10_count 22 = .ok (.athrow, 1) := by decide +kernel
theorem dX10_count_23 : decode cX10_count 23 = .ok (.aload_n 0, 1) := by decide +kernel
theorem dX10_count_24 : decode cX10_count 24 = .ok (.getfield 61, 3) := by decide +kernel
theorem dX10_count_27 : decode cX10_count 27 = .ok (.getfield 278, 3) := by decide +kernel
theorem dX10_count_30 : decode cX10_count 30 = .ok (.ireturn, 1) := by decide +kernel
theorem dX10_second_0 : decode cX10_second 0 = .ok (.aload_n 0, 1) := by decide +kernel
theorem dX10_second_1 : decode cX10_second 1 = .ok (.getfield 87, 3) := by decide +kernel
theorem dX10_second_4 : decode cX10_second 4 = .ok (.ireturn, 1) := by decide +kernel
theorem dX10_holds_0 : decode cX10_holds 0 = .ok (.aload_n 0, 1) := by decide +kernel
theorem dX10_holds_1 : decode cX10_holds 1 = .ok (.getfield 75, 3) := by decide +kernel
theorem dX10_holds_4 : decode cX10_holds 4 = .ok (.getfield 306, 3) := by decide +kernel
theorem dX10_holds_7 : decode cX10_holds 7 = .ok (.bipush 45, 2) := by decide +kernel
theorem dX10_holds_9 : decode cX10_holds 9 = .ok (.if_icmp .ne 14, 3) := by decide +kernel
theorem dX10_holds_12 : decode cX10_holds 12 = .ok (.new 134, 3) := by decide +kernel
theorem dX10_holds_15 : decode cX10_holds 15 = .ok (.dup, 1) := by decide +kernel
theorem dX10_holds_16 : decode cX10_holds 16 = .ok (.ldc_w 309, 3) := by decide +kernel
theorem dX10_holds_19 : decode cX10_holds 19 = .ok (.invokespecial 138, 3) := by decide +kernel
theorem dX10_holds_22 : decode cX10_holds 22 = .ok (.athrow, 1) := by decide +kernel
theorem dX10_holds_23 : decode cX10_holds 23 = .ok (.aload_n 0, 1) := by decide +kernel
theorem dX10_holds_24 : decode cX10_holds 24 = .ok (.getfield 61, 3) := by decide +kernel
theorem dX10_holds_27 : decode cX10_holds 27 = .ok (.getfield 311, 3) := by decide +kernel
theorem dX10_holds_30 : decode cX10_holds 30 = .ok (.ireturn, 1) := by decide +kernel
theorem dX10_cause_0 : decode cX10_cause 0 = .ok (.aload_n 0, 1) := by decide +kernel
theorem dX10_cause_1 : decode cX10_cause 1 = .ok (.invokevirtual 314, 3) := by decide +kernel
theorem dX10_cause_4 : decode cX10_cause 4 = .ok (.ifCond .ne 14, 3) := by decide +kernel
theorem dX10_cause_7 : decode cX10_cause 7 = .ok (.new 317, 3) := by decide +kernel
theorem dX10_cause_10 : decode cX10_cause 10 = .ok (.dup, 1) := by decide +kernel
theorem dX10_cause_11 : decode cX10_cause 11 = .ok (.ldc_w 319, 3) := by decide +kernel
theorem dX10_cause_14 : decode cX10_cause 14 = .ok (.invokespecial 321, 3) := by decide +kernel
theorem dX10_cause_17 : decode cX10_cause 17 = .ok (.athrow, 1) := by decide +kernel
theorem dX10_cause_18 : decode cX10_cause 18 = .ok (.aload_n 0, 1) := by decide +kernel
theorem dX10_cause_19 : decode cX10_cause 19 = .ok (.getfield 61, 3) := by decide +kernel
theorem dX10_cause_22 : decode cX10_cause 22 = .ok (.getfield 322, 3) := by decide +kernel
theorem dX10_cause_25 : decode cX10_cause 25 = .ok (.ireturn, 1) := by decide +kernel
theorem dX10_causeRule_0 : decode cX10_causeRule 0 = .ok (.aload_n 0, 1) := by decide +kernel
theorem dX10_causeRule_1 : decode cX10_causeRule 1 = .ok (.invokevirtual 314, 3) := by decide +kernel
theorem dX10_causeRule_4 : decode cX10_causeRule 4 = .ok (.ifCond .eq 14, 3) := by decide +kernel
theorem dX10_causeRule_7 : decode cX10_causeRule 7 = .ok (.aload_n 0, 1) := by decide +kernel
theorem dX10_causeRule_8 : decode cX10_causeRule 8 = .ok (.getfield 61, 3) := by decide +kernel
theorem dX10_causeRule_11 : decode cX10_causeRule 11 = .ok (.getfield 325, 3) := by decide +kernel
theorem dX10_causeRule_14 : decode cX10_causeRule 14 = .ok (.iconst (-1), 1) := by decide +kernel
theorem dX10_causeRule_15 : decode cX10_causeRule 15 = .ok (.if_icmp .ne 14, 3) := by decide +kernel
theorem dX10_causeRule_18 : decode cX10_causeRule 18 = .ok (.new 317, 3) := by decide +kernel
theorem dX10_causeRule_21 : decode cX10_causeRule 21 = .ok (.dup, 1) := by decide +kernel
theorem dX10_causeRule_22 : decode cX10_causeRule 22 = .ok (.ldc_w 328, 3) := by decide +kernel
theorem dX10_causeRule_25 : decode cX10_causeRule 25 = .ok (.invokespecial 321, 3) := by decide +kernel
theorem dX10_causeRule_28 : decode cX10_causeRule 28 = .ok (.athrow, 1) := by decide +kernel
theorem dX10_causeRule_29 : decode cX10_causeRule 29 = .ok (.aload_n 0, 1) := by decide +kernel
theorem dX10_causeRule_30 : decode cX10_causeRule 30 = .ok (.getfield 61, 3) := by decide +kernel
theorem dX10_causeRule_33 : decode cX10_causeRule 33 = .ok (.getfield 325, 3) := by decide +kernel
theorem dX10_causeRule_36 : decode cX10_causeRule 36 = .ok (.ireturn, 1) := by decide +kernel
theorem dX10_risk_0 : decode cX10_risk 0 = .ok (.aload_n 0, 1) := by decide +kernel
theorem dX10_risk_1 : decode cX10_risk 1 = .ok (.getfield 47, 3) := by decide +kernel
theorem dX10_risk_4 : decode cX10_risk 4 = .ok (.invokevirtual 210, 3) := by decide +kernel
theorem dX10_risk_7 : decode cX10_risk 7 = .ok (.ireturn, 1) := by decide +kernel
theorem dX10_logLength_0 : decode cX10_logLength 0 = .ok (.aload_n 0, 1) := by decide +kernel
theorem dX10_logLength_1 : decode cX10_logLength 1 = .ok (.getfield 75, 3) := by decide +kernel
theorem dX10_logLength_4 : decode cX10_logLength 4 = .ok (.getfield 330, 3) := by decide +kernel
theorem dX10_logLength_7 : decode cX10_logLength 7 = .ok (.invokevirtual 334, 3) := by decide +kernel
theorem dX10_logLength_10 : decode cX10_logLength 10 = .ok (.ireturn, 1) := by decide +kernel
theorem dX10_logAt_0 : decode cX10_logAt 0 = .ok (.iload_n 1, 1) := by decide +kernel
theorem dX10_logAt_1 : decode cX10_logAt 1 = .ok (.aload_n 0, 1) := by decide +kernel
theorem dX10_logAt_2 : decode cX10_logAt 2 = .ok (.getfield 75, 3) := by decide +kernel
theorem dX10_logAt_5 : decode cX10_logAt 5 = .ok (.getfield 330, 3) := by decide +kernel
theorem dX10_logAt_8 : decode cX10_logAt 8 = .ok (.invokevirtual 334, 3) := by decide +kernel
theorem dX10_logAt_11 : decode cX10_logAt 11 = .ok (.invokestatic 90, 3) := by decide +kernel
theorem dX10_logAt_14 : decode cX10_logAt 14 = .ok (.ifCond .ne 14, 3) := by decide +kernel
theorem dX10_logAt_17 : decode cX10_logAt 17 = .ok (.new 142, 3) := by decide +kernel
theorem dX10_logAt_20 : decode cX10_logAt 20 = .ok (.dup, 1) := by decide +kernel
theorem dX10_logAt_21 : decode cX10_logAt 21 = .ok (.ldc_w 339, 3) := by decide +kernel
theorem dX10_logAt_24 : decode cX10_logAt 24 = .ok (.invokespecial 146, 3) := by decide +kernel
theorem dX10_logAt_27 : decode cX10_logAt 27 = .ok (.athrow, 1) := by decide +kernel
theorem dX10_logAt_28 : decode cX10_logAt 28 = .ok (.aload_n 0, 1) := by decide +kernel
theorem dX10_logAt_29 : decode cX10_logAt 29 = .ok (.getfield 75, 3) := by decide +kernel
theorem dX10_logAt_32 : decode cX10_logAt 32 = .ok (.getfield 330, 3) := by decide +kernel
theorem dX10_logAt_35 : decode cX10_logAt 35 = .ok (.iload_n 1, 1) := by decide +kernel
theorem dX10_logAt_36 : decode cX10_logAt 36 = .ok (.invokevirtual 341, 3) := by decide +kernel
theorem dX10_logAt_39 : decode cX10_logAt 39 = .ok (.ireturn, 1) := by decide +kernel
theorem dX10_logged_0 : decode cX10_logged 0 = .ok (.aload_n 0, 1) := by decide +kernel
theorem dX10_logged_1 : decode cX10_logged 1 = .ok (.getfield 75, 3) := by decide +kernel
theorem dX10_logged_4 : decode cX10_logged 4 = .ok (.iload_n 1, 1) := by decide +kernel
theorem dX10_logged_5 : decode cX10_logged 5 = .ok (.invokevirtual 345, 3) := by decide +kernel
theorem dX10_logged_8 : decode cX10_logged 8 = .ok (.ireturn, 1) := by decide +kernel
theorem dX10_checksum_0 : decode cX10_checksum 0 = .ok (.ldc2_w 349, 3) := by decide +kernel
theorem dX10_checksum_3 : decode cX10_checksum 3 = .ok (.lstore_n 1, 1) := by decide +kernel
theorem dX10_checksum_4 : decode cX10_checksum 4 = .ok (.ldc2_w 351, 3) := by decide +kernel
theorem dX10_checksum_7 : decode cX10_checksum 7 = .ok (.lload_n 1, 1) := by decide +kernel
theorem dX10_checksum_8 : decode cX10_checksum 8 = .ok (.lmul, 1) := by decide +kernel
theorem dX10_checksum_9 : decode cX10_checksum 9 = .ok (.aload_n 0, 1) := by decide +kernel
theorem dX10_checksum_10 : decode cX10_checksum 10 = .ok (.getfield 87, 3) := by decide +kernel
theorem dX10_checksum_13 : decode cX10_checksum 13 = .ok (.i2l, 1) := by decide +kernel
theorem dX10_checksum_14 : decode cX10_checksum 14 = .ok (.ladd, 1) := by decide +kernel
theorem dX10_checksum_15 : decode cX10_checksum 15 = .ok (.lstore_n 1, 1) := by decide +kernel
theorem dX10_checksum_16 : decode cX10_checksum 16 = .ok (.ldc2_w 351, 3) := by decide +kernel
theorem dX10_checksum_19 : decode cX10_checksum 19 = .ok (.lload_n 1, 1) := by decide +kernel
theorem dX10_checksum_20 : decode cX10_checksum 20 = .ok (.lmul, 1) := by decide +kernel
theorem dX10_checksum_21 : decode cX10_checksum 21 = .ok (.aload_n 0, 1) := by decide +kernel
theorem dX10_checksum_22 : decode cX10_checksum 22 = .ok (.getfield 61, 3) := by decide +kernel
theorem dX10_checksum_25 : decode cX10_checksum 25 = .ok (.getfield 278, 3) := by decide +kernel
theorem dX10_checksum_28 : decode cX10_checksum 28 = .ok (.i2l, 1) := by decide +kernel
theorem dX10_checksum_29 : decode cX10_checksum 29 = .ok (.ladd, 1) := by decide +kernel
theorem dX10_checksum_30 : decode cX10_checksum 30 = .ok (.lstore_n 1, 1) := by decide +kernel
theorem dX10_checksum_31 : decode cX10_checksum 31 = .ok (.iconst 0, 1) := by decide +kernel
theorem dX10_checksum_32 : decode cX10_checksum 32 = .ok (.istore_n 3, 1) := by decide +kernel
theorem dX10_checksum_33 : decode cX10_checksum 33 = .ok (.iload_n 3, 1) := by decide +kernel
theorem dX10_checksum_34 : decode cX10_checksum 34 = .ok (.iconst 3, 1) := by decide +kernel
theorem dX10_checksum_35 : decode cX10_checksum 35 = .ok (.if_icmp .ge 26, 3) := by decide +kernel
theorem dX10_checksum_38 : decode cX10_checksum 38 = .ok (.ldc2_w 351, 3) := by decide +kernel
theorem dX10_checksum_41 : decode cX10_checksum 41 = .ok (.lload_n 1, 1) := by decide +kernel
theorem dX10_checksum_42 : decode cX10_checksum 42 = .ok (.lmul, 1) := by decide +kernel
theorem dX10_checksum_43 : decode cX10_checksum 43 = .ok (.aload_n 0, 1) := by decide +kernel
theorem dX10_checksum_44 : decode cX10_checksum 44 = .ok (.getfield 10, 3) := by decide +kernel
theorem dX10_checksum_47 : decode cX10_checksum 47 = .ok (.getfield 121, 3) := by decide +kernel
theorem dX10_checksum_50 : decode cX10_checksum 50 = .ok (.iload_n 3, 1) := by decide +kernel
theorem dX10_checksum_51 : decode cX10_checksum 51 = .ok (.iaload, 1) := by decide +kernel
theorem dX10_checksum_52 : decode cX10_checksum 52 = .ok (.i2l, 1) := by decide +kernel
theorem dX10_checksum_53 : decode cX10_checksum 53 = .ok (.ladd, 1) := by decide +kernel
theorem dX10_checksum_54 : decode cX10_checksum 54 = .ok (.lstore_n 1, 1) := by decide +kernel
theorem dX10_checksum_55 : decode cX10_checksum 55 = .ok (.iinc 3 1, 3) := by decide +kernel
theorem dX10_checksum_58 : decode cX10_checksum 58 = .ok (.goto (-25), 3) := by decide +kernel
theorem dX10_checksum_61 : decode cX10_checksum 61 = .ok (.iconst 0, 1) := by decide +kernel
theorem dX10_checksum_62 : decode cX10_checksum 62 = .ok (.istore_n 3, 1) := by decide +kernel
theorem dX10_checksum_63 : decode cX10_checksum 63 = .ok (.iload_n 3, 1) := by decide +kernel
theorem dX10_checksum_64 : decode cX10_checksum 64 = .ok (.aload_n 0, 1) := by decide +kernel
theorem dX10_checksum_65 : decode cX10_checksum 65 = .ok (.getfield 54, 3) := by decide +kernel
theorem dX10_checksum_68 : decode cX10_checksum 68 = .ok (.getfield 220, 3) := by decide +kernel
theorem dX10_checksum_71 : decode cX10_checksum 71 = .ok (.if_icmp .ge 26, 3) := by decide +kernel
theorem dX10_checksum_74 : decode cX10_checksum 74 = .ok (.ldc2_w 351, 3) := by decide +kernel
theorem dX10_checksum_77 : decode cX10_checksum 77 = .ok (.lload_n 1, 1) := by decide +kernel
theorem dX10_checksum_78 : decode cX10_checksum 78 = .ok (.lmul, 1) := by decide +kernel
theorem dX10_checksum_79 : decode cX10_checksum 79 = .ok (.aload_n 0, 1) := by decide +kernel
theorem dX10_checksum_80 : decode cX10_checksum 80 = .ok (.getfield 54, 3) := by decide +kernel
theorem dX10_checksum_83 : decode cX10_checksum 83 = .ok (.getfield 252, 3) := by decide +kernel
theorem dX10_checksum_86 : decode cX10_checksum 86 = .ok (.iload_n 3, 1) := by decide +kernel
theorem dX10_checksum_87 : decode cX10_checksum 87 = .ok (.iaload, 1) := by decide +kernel
theorem dX10_checksum_88 : decode cX10_checksum 88 = .ok (.i2l, 1) := by decide +kernel
theorem dX10_checksum_89 : decode cX10_checksum 89 = .ok (.ladd, 1) := by decide +kernel
theorem dX10_checksum_90 : decode cX10_checksum 90 = .ok (.lstore_n 1, 1) := by decide +kernel
theorem dX10_checksum_91 : decode cX10_checksum 91 = .ok (.iinc 3 1, 3) := by decide +kernel
theorem dX10_checksum_94 : decode cX10_checksum 94 = .ok (.goto (-31), 3) := by decide +kernel
theorem dX10_checksum_97 : decode cX10_checksum 97 = .ok (.ldc2_w 351, 3) := by decide +kernel
theorem dX10_checksum_100 : decode cX10_checksum 100 = .ok (.lload_n 1, 1) := by decide +kernel
theorem dX10_checksum_101 : decode cX10_checksum 101 = .ok (.lmul, 1) := by decide +kernel
theorem dX10_checksum_102 : decode cX10_checksum 102 = .ok (.aload_n 0, 1) := by decide +kernel
theorem dX10_checksum_103 : decode cX10_checksum 103 = .ok (.getfield 75, 3) := by decide +kernel
theorem dX10_checksum_106 : decode cX10_checksum 106 = .ok (.getfield 330, 3) := by decide +kernel
theorem dX10_checksum_109 : decode cX10_checksum 109 = .ok (.invokevirtual 334, 3) := by decide +kernel
theorem dX10_checksum_112 : decode cX10_checksum 112 = .ok (.i2l, 1) := by decide +kernel
theorem dX10_checksum_113 : decode cX10_checksum 113 = .ok (.ladd, 1) := by decide +kernel
theorem dX10_checksum_114 : decode cX10_checksum 114 = .ok (.lreturn, 1) := by decide +kernel
theorem dX10_metShare_0 : decode cX10_metShare 0 = .ok (.aload_n 0, 1) := by decide +kernel
theorem dX10_metShare_1 : decode cX10_metShare 1 = .ok (.getfield 54, 3) := by decide +kernel
theorem dX10_metShare_4 : decode cX10_metShare 4 = .ok (.getfield 220, 3) := by decide +kernel
theorem dX10_metShare_7 : decode cX10_metShare 7 = .ok (.ifCond .ne 14, 3) := by decide +kernel
theorem dX10_metShare_10 : decode cX10_metShare 10 = .ok (.new 353, 3) := by decide +kernel
theorem dX10_metShare_13 : decode cX10_metShare 13 = .ok (.dup, 1) := by decide +kernel
theorem dX10_metShare_14 : decode cX10_metShare 14 = .ok (.ldc_w 355, 3) := by decide +kernel
theorem dX10_metShare_17 : decode cX10_metShare 17 = .ok (.invokespecial 357, 3) := by decide +kernel
theorem dX10_metShare_20 : decode cX10_metShare 20 = .ok (.athrow, 1) := by decide +kernel
theorem dX10_metShare_21 : decode cX10_metShare 21 = .ok (.iconst 0, 1) := by decide +kernel
theorem dX10_metShare_22 : decode cX10_metShare 22 = .ok (.istore_n 1, 1) := by decide +kernel
theorem dX10_metShare_23 : decode cX10_metShare 23 = .ok (.iconst 0, 1) := by decide +kernel
theorem dX10_metShare_24 : decode cX10_metShare 24 = .ok (.istore_n 2, 1) := by decide +kernel
theorem dX10_metShare_25 : decode cX10_metShare 25 = .ok (.iload_n 2, 1) := by decide +kernel
theorem dX10_metShare_26 : decode cX10_metShare 26 = .ok (.aload_n 0, 1) := by decide +kernel
theorem dX10_metShare_27 : decode cX10_metShare 27 = .ok (.getfield 54, 3) := by decide +kernel
theorem dX10_metShare_30 : decode cX10_metShare 30 = .ok (.getfield 220, 3) := by decide +kernel
theorem dX10_metShare_33 : decode cX10_metShare 33 = .ok (.if_icmp .ge 25, 3) := by decide +kernel
theorem dX10_metShare_36 : decode cX10_metShare 36 = .ok (.iload_n 1, 1) := by decide +kernel
theorem dX10_metShare_37 : decode cX10_metShare 37 = .ok (.aload_n 0, 1) := by decide +kernel
theorem dX10_metShare_38 : decode cX10_metShare 38 = .ok (.iload_n 2, 1) := by decide +kernel
theorem dX10_metShare_39 : decode cX10_metShare 39 = .ok (.invokevirtual 255, 3) := by decide +kernel
theorem dX10_metShare_42 : decode cX10_metShare 42 = .ok (.ifCond .eq 7, 3) := by decide +kernel
theorem dX10_metShare_45 : decode cX10_metShare 45 = .ok (.iconst 1, 1) := by decide +kernel
theorem dX10_metShare_46 : decode cX10_metShare 46 = .ok (.goto 4, 3) := by decide +kernel
theorem dX10_metShare_49 : decode cX10_metShare 49 = .ok (.iconst 0, 1) := by decide +kernel
theorem dX10_metShare_50 : decode cX10_metShare 50 = .ok (.iadd, 1) := by decide +kernel
theorem dX10_metShare_51 : decode cX10_metShare 51 = .ok (.istore_n 1, 1) := by decide +kernel
theorem dX10_metShare_52 : decode cX10_metShare 52 = .ok (.iinc 2 1, 3) := by decide +kernel
theorem dX10_metShare_55 : decode cX10_metShare 55 = .ok (.goto (-30), 3) := by decide +kernel
theorem dX10_metShare_58 : decode cX10_metShare 58 = .ok (.iload_n 1, 1) := by decide +kernel
theorem dX10_metShare_59 : decode cX10_metShare 59 = .ok (.i2f, 1) := by decide +kernel
theorem dX10_metShare_60 : decode cX10_metShare 60 = .ok (.aload_n 0, 1) := by decide +kernel
theorem dX10_metShare_61 : decode cX10_metShare 61 = .ok (.getfield 54, 3) := by decide +kernel
theorem dX10_metShare_64 : decode cX10_metShare 64 = .ok (.getfield 220, 3) := by decide +kernel
theorem dX10_metShare_67 : decode cX10_metShare 67 = .ok (.i2f, 1) := by decide +kernel
theorem dX10_metShare_68 : decode cX10_metShare 68 = .ok (.fdiv, 1) := by decide +kernel
theorem dX10_metShare_69 : decode cX10_metShare 69 = .ok (.freturn, 1) := by decide +kernel
theorem dX10_meanFill_0 : decode cX10_meanFill 0 = .ok (.aload_n 0, 1) := by decide +kernel
theorem dX10_meanFill_1 : decode cX10_meanFill 1 = .ok (.getfield 10, 3) := by decide +kernel
theorem dX10_meanFill_4 : decode cX10_meanFill 4 = .ok (.invokevirtual 358, 3) := by decide +kernel
theorem dX10_meanFill_7 : decode cX10_meanFill 7 = .ok (.istore_n 1, 1) := by decide +kernel
theorem dX10_meanFill_8 : decode cX10_meanFill 8 = .ok (.iload_n 1, 1) := by decide +kernel
theorem dX10_meanFill_9 : decode cX10_meanFill 9 = .ok (.ifCond .ne 14, 3) := by decide +kernel
theorem dX10_meanFill_12 : decode cX10_meanFill 12 = .ok (.new 353, 3) := by decide +kernel
theorem dX10_meanFill_15 : decode cX10_meanFill 15 = .ok (.dup, 1) := by decide +kernel
theorem dX10_meanFill_16 : decode cX10_meanFill 16 = .ok (.ldc_w 361, 3) := by decide +kernel
theorem dX10_meanFill_19 : decode cX10_meanFill 19 = .ok (.invokespecial 357, 3) := by decide +kernel
theorem dX10_meanFill_22 : decode cX10_meanFill 22 = .ok (.athrow, 1) := by decide +kernel
theorem dX10_meanFill_23 : decode cX10_meanFill 23 = .ok (.aload_n 0, 1) := by decide +kernel
theorem dX10_meanFill_24 : decode cX10_meanFill 24 = .ok (.getfield 10, 3) := by decide +kernel
theorem dX10_meanFill_27 : decode cX10_meanFill 27 = .ok (.invokevirtual 363, 3) := by decide +kernel
theorem dX10_meanFill_30 : decode cX10_meanFill 30 = .ok (.iload_n 1, 1) := by decide +kernel
theorem dX10_meanFill_31 : decode cX10_meanFill 31 = .ok (.i2d, 1) := by decide +kernel
theorem dX10_meanFill_32 : decode cX10_meanFill 32 = .ok (.ddiv, 1) := by decide +kernel
theorem dX10_meanFill_33 : decode cX10_meanFill 33 = .ok (.dreturn, 1) := by decide +kernel
theorem dX10_isSound_0 : decode cX10_isSound 0 = .ok (.aload_n 0, 1) := by decide +kernel
theorem dX10_isSound_1 : decode cX10_isSound 1 = .ok (.invokevirtual 367, 3) := by decide +kernel
theorem dX10_isSound_4 : decode cX10_isSound 4 = .ok (.ifCond .eq 30, 3) := by decide +kernel
theorem dX10_isSound_7 : decode cX10_isSound 7 = .ok (.aload_n 0, 1) := by decide +kernel
theorem dX10_isSound_8 : decode cX10_isSound 8 = .ok (.getfield 68, 3) := by decide +kernel
theorem dX10_isSound_11 : decode cX10_isSound 11 = .ok (.getfield 370, 3) := by decide +kernel
theorem dX10_isSound_14 : decode cX10_isSound 14 = .ok (.ifCond .eq 24, 3) := by decide +kernel
theorem dX10_isSound_17 : decode cX10_isSound 17 = .ok (.aload_n 0, 1) := by decide +kernel
theorem dX10_isSound_18 : decode cX10_isSound 18 = .ok (.getfield 61, 3) := by decide +kernel
theorem dX10_isSound_21 : decode cX10_isSound 21 = .ok (.aload_n 0, 1) := by decide +kernel
theorem dX10_isSound_22 : decode cX10_isSound 22 = .ok (.getfield 68, 3) := by decide +kernel
theorem dX10_isSound_25 : decode cX10_isSound 25 = .ok (.getfield 374, 3) := by decide +kernel
theorem dX10_isSound_28 : decode cX10_isSound 28 = .ok (.invokevirtual 377, 3) := by decide +kernel
theorem dX10_isSound_31 : decode cX10_isSound 31 = .ok (.ifCond .eq 7, 3) := by decide +kernel
theorem dX10_isSound_34 : decode cX10_isSound 34 = .ok (.iconst 1, 1) := by decide +kernel
theorem dX10_isSound_35 : decode cX10_isSound 35 = .ok (.goto 4, 3) := by decide +kernel
theorem dX10_isSound_38 : decode cX10_isSound 38 = .ok (.iconst 0, 1) := by decide +kernel
theorem dX10_isSound_39 : decode cX10_isSound 39 = .ok (.istore_n 1, 1) := by decide +kernel
theorem dX10_isSound_40 : decode cX10_isSound 40 = .ok (.iload_n 1, 1) := by decide +kernel
theorem dX10_isSound_41 : decode cX10_isSound 41 = .ok (.ifCond .eq 27, 3) := by decide +kernel
theorem dX10_isSound_44 : decode cX10_isSound 44 = .ok (.aload_n 0, 1) := by decide +kernel
theorem dX10_isSound_45 : decode cX10_isSound 45 = .ok (.getfield 10, 3) := by decide +kernel
theorem dX10_isSound_48 : decode cX10_isSound 48 = .ok (.invokevirtual 380, 3) := by decide +kernel
theorem dX10_isSound_51 : decode cX10_isSound 51 = .ok (.ifCond .eq 17, 3) := by decide +kernel
theorem dX10_isSound_54 : decode cX10_isSound 54 = .ok (.aload_n 0, 1) := by decide +kernel
theorem dX10_isSound_55 : decode cX10_isSound 55 = .ok (.getfield 75, 3) := by decide +kernel
theorem dX10_isSound_58 : decode cX10_isSound 58 = .ok (.invokevirtual 383, 3) := by decide +kernel
theorem dX10_isSound_61 : decode cX10_isSound 61 = .ok (.ifCond .eq 7, 3) := by decide +kernel
theorem dX10_isSound_64 : decode cX10_isSound 64 = .ok (.iconst 1, 1) := by decide +kernel
theorem dX10_isSound_65 : decode cX10_isSound 65 = .ok (.goto 4, 3) := by decide +kernel
theorem dX10_isSound_68 : decode cX10_isSound 68 = .ok (.iconst 0, 1) := by decide +kernel
theorem dX10_isSound_69 : decode cX10_isSound 69 = .ok (.ireturn, 1) := by decide +kernel
theorem dX10_isWithin_0 : decode cX10_isWithin 0 = .ok (.iload_n 0, 1) := by decide +kernel
theorem dX10_isWithin_1 : decode cX10_isWithin 1 = .ok (.iload_n 1, 1) := by decide +kernel
theorem dX10_isWithin_2 : decode cX10_isWithin 2 = .ok (.if_icmp .lt 12, 3) := by decide +kernel
theorem dX10_isWithin_5 : decode cX10_isWithin 5 = .ok (.iload_n 0, 1) := by decide +kernel
theorem dX10_isWithin_6 : decode cX10_isWithin 6 = .ok (.iload_n 2, 1) := by decide +kernel
theorem dX10_isWithin_7 : decode cX10_isWithin 7 = .ok (.if_icmp .gt 7, 3) := by decide +kernel
theorem dX10_isWithin_10 : decode cX10_isWithin 10 = .ok (.iconst 1, 1) := by decide +kernel
theorem dX10_isWithin_11 : decode cX10_isWithin 11 = .ok (.goto 4, 3) := by decide +kernel
theorem dX10_isWithin_14 : decode cX10_isWithin 14 = .ok (.iconst 0, 1) := by decide +kernel
theorem dX10_isWithin_15 : decode cX10_isWithin 15 = .ok (.ireturn, 1) := by decide +kernel
theorem dX10_isBelow_0 : decode cX10_isBelow 0 = .ok (.iload_n 0, 1) := by decide +kernel
theorem dX10_isBelow_1 : decode cX10_isBelow 1 = .ok (.ifCond .lt 12, 3) := by decide +kernel
theorem dX10_isBelow_4 : decode cX10_isBelow 4 = .ok (.iload_n 0, 1) := by decide +kernel
theorem dX10_isBelow_5 : decode cX10_isBelow 5 = .ok (.iload_n 1, 1) := by decide +kernel
theorem dX10_isBelow_6 : decode cX10_isBelow 6 = .ok (.if_icmp .ge 7, 3) := by decide +kernel
theorem dX10_isBelow_9 : decode cX10_isBelow 9 = .ok (.iconst 1, 1) := by decide +kernel
theorem dX10_isBelow_10 : decode cX10_isBelow 10 = .ok (.goto 4, 3) := by decide +kernel
theorem dX10_isBelow_13 : decode cX10_isBelow 13 = .ok (.iconst 0, 1) := by decide +kernel
theorem dX10_isBelow_14 : decode cX10_isBelow 14 = .ok (.ireturn, 1) := by decide +kernel
theorem dX10_isThing_0 : decode cX10_isThing 0 = .ok (.iload_n 0, 1) := by decide +kernel
theorem dX10_isThing_1 : decode cX10_isThing 1 = .ok (.bipush 116, 2) := by decide +kernel
theorem dX10_isThing_3 : decode cX10_isThing 3 = .ok (.if_icmp .ne 9, 3) := by decide +kernel
theorem dX10_isThing_6 : decode cX10_isThing 6 = .ok (.iload_n 1, 1) := by decide +kernel
theorem dX10_isThing_7 : decode cX10_isThing 7 = .ok (.iconst 3, 1) := by decide +kernel
theorem dX10_isThing_8 : decode cX10_isThing 8 = .ok (.invokestatic 90, 3) := by decide +kernel
theorem dX10_isThing_11 : decode cX10_isThing 11 = .ok (.ireturn, 1) := by decide +kernel
theorem dX10_isThing_12 : decode cX10_isThing 12 = .ok (.iload_n 0, 1) := by decide +kernel
theorem dX10_isThing_13 : decode cX10_isThing 13 = .ok (.bipush 115, 2) := by decide +kernel
theorem dX10_isThing_15 : decode cX10_isThing 15 = .ok (.if_icmp .ne 9, 3) := by decide +kernel
theorem dX10_isThing_18 : decode cX10_isThing 18 = .ok (.iload_n 1, 1) := by decide +kernel
theorem dX10_isThing_19 : decode cX10_isThing 19 = .ok (.iconst 3, 1) := by decide +kernel
theorem dX10_isThing_20 : decode cX10_isThing 20 = .ok (.invokestatic 90, 3) := by decide +kernel
theorem dX10_isThing_23 : decode cX10_isThing 23 = .ok (.ireturn, 1) := by decide +kernel
theorem dX10_isThing_24 : decode cX10_isThing 24 = .ok (.iload_n 0, 1) := by decide +kernel
theorem dX10_isThing_25 : decode cX10_isThing 25 = .ok (.bipush 103, 2) := by decide +kernel
theorem dX10_isThing_27 : decode cX10_isThing 27 = .ok (.if_icmp .ne 10, 3) := by decide +kernel
theorem dX10_isThing_30 : decode cX10_isThing 30 = .ok (.iload_n 1, 1) := by decide +kernel
theorem dX10_isThing_31 : decode cX10_isThing 31 = .ok (.bipush 6, 2) := by decide +kernel
theorem dX10_isThing_33 : decode cX10_isThing 33 = .ok (.invokestatic 90, 3) := by decide +kernel
theorem dX10_isThing_36 : decode cX10_isThing 36 = .ok (.ireturn, 1) := by decide +kernel
theorem dX10_isThing_37 : decode cX10_isThing 37 = .ok (.iload_n 0, 1) := by decide +kernel
theorem dX10_isThing_38 : decode cX10_isThing 38 = .ok (.bipush 119, 2) := by decide +kernel
theorem dX10_isThing_40 : decode cX10_isThing 40 = .ok (.if_icmp .eq 15, 3) := by decide +kernel
theorem dX10_isThing_43 : decode cX10_isThing 43 = .ok (.iload_n 0, 1) := by decide +kernel
theorem dX10_isThing_44 : decode cX10_isThing 44 = .ok (.bipush 108, 2) := by decide +kernel
theorem dX10_isThing_46 : decode cX10_isThing 46 = .ok (.if_icmp .eq 9, 3) := by decide +kernel
theorem dX10_isThing_49 : decode cX10_isThing 49 = .ok (.iload_n 0, 1) := by decide +kernel
theorem dX10_isThing_50 : decode cX10_isThing 50 = .ok (.bipush 98, 2) := by decide +kernel
theorem dX10_isThing_52 : decode cX10_isThing 52 = .ok (.if_icmp .ne 7, 3) := by decide +kernel
theorem dX10_isThing_55 : decode cX10_isThing 55 = .ok (.iconst 1, 1) := by decide +kernel
theorem dX10_isThing_56 : decode cX10_isThing 56 = .ok (.goto 4, 3) := by decide +kernel
theorem dX10_isThing_59 : decode cX10_isThing 59 = .ok (.iconst 0, 1) := by decide +kernel
theorem dX10_isThing_60 : decode cX10_isThing 60 = .ok (.ireturn, 1) := by decide +kernel
theorem dX10_isCountOn_0 : decode cX10_isCountOn 0 = .ok (.aload_n 0, 1) := by decide +kernel
theorem dX10_isCountOn_1 : decode cX10_isCountOn 1 = .ok (.getfield 75, 3) := by decide +kernel
theorem dX10_isCountOn_4 : decode cX10_isCountOn 4 = .ok (.getfield 306, 3) := by decide +kernel
theorem dX10_isCountOn_7 : decode cX10_isCountOn 7 = .ok (.bipush 99, 2) := by decide +kernel
theorem dX10_isCountOn_9 : decode cX10_isCountOn 9 = .ok (.if_icmp .eq 15, 3) := by decide +kernel
theorem dX10_isCountOn_12 : decode cX10_isCountOn 12 = .ok (.aload_n 0, 1) := by decide +kernel
theorem dX10_isCountOn_13 : decode cX10_isCountOn 13 = .ok (.getfield 75, 3) := by decide +kernel
theorem dX10_isCountOn_16 : decode cX10_isCountOn 16 = .ok (.getfield 306, 3) := by decide +kernel
theorem dX10_isCountOn_19 : decode cX10_isCountOn 19 = .ok (.bipush 104, 2) := by decide +kernel
theorem dX10_isCountOn_21 : decode cX10_isCountOn 21 = .ok (.if_icmp .ne 7, 3) := by decide +kernel
theorem dX10_isCountOn_24 : decode cX10_isCountOn 24 = .ok (.iconst 1, 1) := by decide +kernel
theorem dX10_isCountOn_25 : decode cX10_isCountOn 25 = .ok (.goto 4, 3) := by decide +kernel
theorem dX10_isCountOn_28 : decode cX10_isCountOn 28 = .ok (.iconst 0, 1) := by decide +kernel
theorem dX10_isCountOn_29 : decode cX10_isCountOn 29 = .ok (.ireturn, 1) := by decide +kernel
theorem dX10_hasLeft_0 : decode cX10_hasLeft 0 = .ok (.aload_n 0, 1) := by decide +kernel
theorem dX10_hasLeft_1 : decode cX10_hasLeft 1 = .ok (.getfield 75, 3) := by decide +kernel
theorem dX10_hasLeft_4 : decode cX10_hasLeft 4 = .ok (.getfield 306, 3) := by decide +kernel
theorem dX10_hasLeft_7 : decode cX10_hasLeft 7 = .ok (.bipush 102, 2) := by decide +kernel
theorem dX10_hasLeft_9 : decode cX10_hasLeft 9 = .ok (.if_icmp .eq 27, 3) := by decide +kernel
theorem dX10_hasLeft_12 : decode cX10_hasLeft 12 = .ok (.aload_n 0, 1) := by decide +kernel
theorem dX10_hasLeft_13 : decode cX10_hasLeft 13 = .ok (.getfield 75, 3) := by decide +kernel
theorem dX10_hasLeft_16 : decode cX10_hasLeft 16 = .ok (.getfield 306, 3) := by decide +kernel
theorem dX10_hasLeft_19 : decode cX10_hasLeft 19 = .ok (.bipush 120, 2) := by decide +kernel
theorem dX10_hasLeft_21 : decode cX10_hasLeft 21 = .ok (.if_icmp .eq 15, 3) := by decide +kernel
theorem dX10_hasLeft_24 : decode cX10_hasLeft 24 = .ok (.aload_n 0, 1) := by decide +kernel
theorem dX10_hasLeft_25 : decode cX10_hasLeft 25 = .ok (.getfield 75, 3) := by decide +kernel
theorem dX10_hasLeft_28 : decode cX10_hasLeft 28 = .ok (.getfield 306, 3) := by decide +kernel
theorem dX10_hasLeft_31 : decode cX10_hasLeft 31 = .ok (.bipush 111, 2) := by decide +kernel
theorem dX10_hasLeft_33 : decode cX10_hasLeft 33 = .ok (.if_icmp .ne 7, 3) := by decide +kernel
theorem dX10_hasLeft_36 : decode cX10_hasLeft 36 = .ok (.iconst 1, 1) := by decide +kernel
theorem dX10_hasLeft_37 : decode cX10_hasLeft 37 = .ok (.goto 4, 3) := by decide +kernel
theorem dX10_hasLeft_40 : decode cX10_hasLeft 40 = .ok (.iconst 0, 1) := by decide +kernel
theorem dX10_hasLeft_41 : decode cX10_hasLeft 41 = .ok (.ireturn, 1) := by decide +kernel
theorem dX10_isPlanFixed_0 : decode cX10_isPlanFixed 0 = .ok (.aload_n 0, 1) := by decide +kernel
theorem dX10_isPlanFixed_1 : decode cX10_isPlanFixed 1 = .ok (.invokevirtual 275, 3) := by decide +kernel
theorem dX10_isPlanFixed_4 : decode cX10_isPlanFixed 4 = .ok (.ifCond .ne 10, 3) := by decide +kernel
theorem dX10_isPlanFixed_7 : decode cX10_isPlanFixed 7 = .ok (.aload_n 0, 1) := by decide +kernel
theorem dX10_isPlanFixed_8 : decode cX10_isPlanFixed 8 = .ok (.invokevirtual 367, 3) := by decide +kernel
theorem dX10_isPlanFixed_11 : decode cX10_isPlanFixed 11 = .ok (.ifCond .eq 7, 3) := by decide +kernel
theorem dX10_isPlanFixed_14 : decode cX10_isPlanFixed 14 = .ok (.iconst 1, 1) := by decide +kernel
theorem dX10_isPlanFixed_15 : decode cX10_isPlanFixed 15 = .ok (.goto 4, 3) := by decide +kernel
theorem dX10_isPlanFixed_18 : decode cX10_isPlanFixed 18 = .ok (.iconst 0, 1) := by decide +kernel
theorem dX10_isPlanFixed_19 : decode cX10_isPlanFixed 19 = .ok (.ireturn, 1) := by decide +kernel
theorem dX10_isThereCause_0 : decode cX10_isThereCause 0 = .ok (.aload_n 0, 1) := by decide +kernel
theorem dX10_isThereCause_1 : decode cX10_isThereCause 1 = .ok (.getfield 75, 3) := by decide +kernel
theorem dX10_isThereCause_4 : decode cX10_isThereCause 4 = .ok (.getfield 306, 3) := by decide +kernel
theorem dX10_isThereCause_7 : decode cX10_isThereCause 7 = .ok (.bipush 104, 2) := by decide +kernel
theorem dX10_isThereCause_9 : decode cX10_isThereCause 9 = .ok (.if_icmp .eq 27, 3) := by decide +kernel
theorem dX10_isThereCause_12 : decode cX10_isThereCause 12 = .ok (.aload_n 0, 1) := by decide +kernel
theorem dX10_isThereCause_13 : decode cX10_isThereCause 13 = .ok (.getfield 75, 3) := by decide +kernel
theorem dX10_isThereCause_16 : decode cX10_isThereCause 16 = .ok (.getfield 306, 3) := by decide +kernel
theorem dX10_isThereCause_19 : decode cX10_isThereCause 19 = .ok (.bipush 115, 2) := by decide +kernel
theorem dX10_isThereCause_21 : decode cX10_isThereCause 21 = .ok (.if_icmp .eq 15, 3) := by decide +kernel
theorem dX10_isThereCause_24 : decode cX10_isThereCause 24 = .ok (.aload_n 0, 1) := by decide +kernel
theorem dX10_isThereCause_25 : decode cX10_isThereCause 25 = .ok (.getfield 75, 3) := by decide +kernel
theorem dX10_isThereCause_28 : decode cX10_isThereCause 28 = .ok (.getfield 306, 3) := by decide +kernel
theorem dX10_isThereCause_31 : decode cX10_isThereCause 31 = .ok (.bipush 120, 2) := by decide +kernel
theorem dX10_isThereCause_33 : decode cX10_isThereCause 33 = .ok (.if_icmp .ne 7, 3) := by decide +kernel
theorem dX10_isThereCause_36 : decode cX10_isThereCause 36 = .ok (.iconst 1, 1) := by decide +kernel
theorem dX10_isThereCause_37 : decode cX10_isThereCause 37 = .ok (.goto 4, 3) := by decide +kernel
theorem dX10_isThereCause_40 : decode cX10_isThereCause 40 = .ok (.iconst 0, 1) := by decide +kernel
theorem dX10_isThereCause_41 : decode cX10_isThereCause 41 = .ok (.ireturn, 1) := by decide +kernel
theorem dX10_valueFor_0 : decode cX10_valueFor 0 = .ok (.aload_n 0, 1) := by decide +kernel
theorem dX10_valueFor_1 : decode cX10_valueFor 1 = .ok (.getfield 54, 3) := by decide +kernel
theorem dX10_valueFor_4 : decode cX10_valueFor 4 = .ok (.getfield 386, 3) := by decide +kernel
theorem dX10_valueFor_7 : decode cX10_valueFor 7 = .ok (.iload_n 1, 1) := by decide +kernel
theorem dX10_valueFor_8 : decode cX10_valueFor 8 = .ok (.caload, 1) := by decide +kernel
theorem dX10_valueFor_9 : decode cX10_valueFor 9 = .ok (.istore_n 2, 1) := by decide +kernel
theorem dX10_valueFor_10 : decode cX10_valueFor 10 = .ok (.aload_n 0, 1) := by decide +kernel
theorem dX10_valueFor_11 : decode cX10_valueFor 11 = .ok (.getfield 54, 3) := by decide +kernel
theorem dX10_valueFor_14 : decode cX10_valueFor 14 = .ok (.getfield 389, 3) := by decide +kernel
theorem dX10_valueFor_17 : decode cX10_valueFor 17 = .ok (.iload_n 1, 1) := by decide +kernel
theorem dX10_valueFor_18 : decode cX10_valueFor 18 = .ok (.iaload, 1) := by decide +kernel
theorem dX10_valueFor_19 : decode cX10_valueFor 19 = .ok (.istore_n 3, 1) := by decide +kernel
theorem dX10_valueFor_20 : decode cX10_valueFor 20 = .ok (.iload_n 2, 1) := by decide +kernel
theorem dX10_valueFor_21 : decode cX10_valueFor 21 = .ok (.bipush 116, 2) := by decide +kernel
theorem dX10_valueFor_23 : decode cX10_valueFor 23 = .ok (.if_icmp .ne 13, 3) := by decide +kernel
theorem dX10_valueFor_26 : decode cX10_valueFor 26 = .ok (.aload_n 0, 1) := by decide +kernel
theorem dX10_valueFor_27 : decode cX10_valueFor 27 = .ok (.getfield 10, 3) := by decide +kernel
theorem dX10_valueFor_30 : decode cX10_valueFor 30 = .ok (.getfield 121, 3) := by decide +kernel
theorem dX10_valueFor_33 : decode cX10_valueFor 33 = .ok (.iload_n 3, 1) := by decide +kernel
theorem dX10_valueFor_34 : decode cX10_valueFor 34 = .ok (.iaload, 1) := by decide +kernel
theorem dX10_valueFor_35 : decode cX10_valueFor 35 = .ok (.ireturn, 1) := by decide +kernel
theorem dX10_valueFor_36 : decode cX10_valueFor 36 = .ok (.iload_n 2, 1) := by decide +kernel
theorem dX10_valueFor_37 : decode cX10_valueFor 37 = .ok (.bipush 115, 2) := by decide +kernel
theorem dX10_valueFor_39 : decode cX10_valueFor 39 = .ok (.if_icmp .ne 12, 3) := by decide +kernel
theorem dX10_valueFor_42 : decode cX10_valueFor 42 = .ok (.aload_n 0, 1) := by decide +kernel
theorem dX10_valueFor_43 : decode cX10_valueFor 43 = .ok (.getfield 33, 3) := by decide +kernel
theorem dX10_valueFor_46 : decode cX10_valueFor 46 = .ok (.iload_n 3, 1) := by decide +kernel
theorem dX10_valueFor_47 : decode cX10_valueFor 47 = .ok (.invokevirtual 181, 3) := by decide +kernel
theorem dX10_valueFor_50 : decode cX10_valueFor 50 = .ok (.ireturn, 1) := by decide +kernel
theorem dX10_valueFor_51 : decode cX10_valueFor 51 = .ok (.iload_n 2, 1) := by decide +kernel
theorem dX10_valueFor_52 : decode cX10_valueFor 52 = .ok (.bipush 119, 2) := by decide +kernel
theorem dX10_valueFor_54 : decode cX10_valueFor 54 = .ok (.if_icmp .ne 8, 3) := by decide +kernel
theorem dX10_valueFor_57 : decode cX10_valueFor 57 = .ok (.aload_n 0, 1) := by decide +kernel
theorem dX10_valueFor_58 : decode cX10_valueFor 58 = .ok (.getfield 83, 3) := by decide +kernel
theorem dX10_valueFor_61 : decode cX10_valueFor 61 = .ok (.ireturn, 1) := by decide +kernel
theorem dX10_valueFor_62 : decode cX10_valueFor 62 = .ok (.iload_n 2, 1) := by decide +kernel
theorem dX10_valueFor_63 : decode cX10_valueFor 63 = .ok (.bipush 108, 2) := by decide +kernel
theorem dX10_valueFor_65 : decode cX10_valueFor 65 = .ok (.if_icmp .ne 11, 3) := by decide +kernel
theorem dX10_valueFor_68 : decode cX10_valueFor 68 = .ok (.aload_n 0, 1) := by decide +kernel
theorem dX10_valueFor_69 : decode cX10_valueFor 69 = .ok (.getfield 40, 3) := by decide +kernel
theorem dX10_valueFor_72 : decode cX10_valueFor 72 = .ok (.getfield 205, 3) := by decide +kernel
theorem dX10_valueFor_75 : decode cX10_valueFor 75 = .ok (.ireturn, 1) := by decide +kernel
theorem dX10_valueFor_76 : decode cX10_valueFor 76 = .ok (.iload_n 2, 1) := by decide +kernel
theorem dX10_valueFor_77 : decode cX10_valueFor 77 = .ok (.bipush 98, 2) := by decide +kernel
theorem dX10_valueFor_79 : decode cX10_valueFor 79 = .ok (.if_icmp .ne 11, 3) := by decide +kernel
theorem dX10_valueFor_82 : decode cX10_valueFor 82 = .ok (.aload_n 0, 1) := by decide +kernel
theorem dX10_valueFor_83 : decode cX10_valueFor 83 = .ok (.getfield 47, 3) := by decide +kernel
theorem dX10_valueFor_86 : decode cX10_valueFor 86 = .ok (.invokevirtual 210, 3) := by decide +kernel
theorem dX10_valueFor_89 : decode cX10_valueFor 89 = .ok (.ireturn, 1) := by decide +kernel
theorem dX10_valueFor_90 : decode cX10_valueFor 90 = .ok (.aload_n 0, 1) := by decide +kernel
theorem dX10_valueFor_91 : decode cX10_valueFor 91 = .ok (.getfield 79, 3) := by decide +kernel
theorem dX10_valueFor_94 : decode cX10_valueFor 94 = .ok (.iload_n 3, 1) := by decide +kernel
theorem dX10_valueFor_95 : decode cX10_valueFor 95 = .ok (.baload, 1) := by decide +kernel
theorem dX10_valueFor_96 : decode cX10_valueFor 96 = .ok (.ifCond .eq 7, 3) := by decide +kernel
theorem dX10_valueFor_99 : decode cX10_valueFor 99 = .ok (.iconst 1, 1) := by decide +kernel
theorem dX10_valueFor_100 : decode cX10_valueFor 100 = .ok (.goto 4, 3) := by decide +kernel
theorem dX10_valueFor_103 : decode cX10_valueFor 103 = .ok (.iconst 0, 1) := by decide +kernel
theorem dX10_valueFor_104 : decode cX10_valueFor 104 = .ok (.ireturn, 1) := by decide +kernel
theorem dX10_isWaived_0 : decode cX10_isWaived 0 = .ok (.aload_n 0, 1) := by decide +kernel
theorem dX10_isWaived_1 : decode cX10_isWaived 1 = .ok (.getfield 75, 3) := by decide +kernel
theorem dX10_isWaived_4 : decode cX10_isWaived 4 = .ok (.getfield 306, 3) := by decide +kernel
theorem dX10_isWaived_7 : decode cX10_isWaived 7 = .ok (.bipush 45, 2) := by decide +kernel
theorem dX10_isWaived_9 : decode cX10_isWaived 9 = .ok (.if_icmp .eq 25, 3) := by decide +kernel
theorem dX10_isWaived_12 : decode cX10_isWaived 12 = .ok (.aload_n 0, 1) := by decide +kernel
theorem dX10_isWaived_13 : decode cX10_isWaived 13 = .ok (.getfield 54, 3) := by decide +kernel
theorem dX10_isWaived_16 : decode cX10_isWaived 16 = .ok (.iload_n 1, 1) := by decide +kernel
theorem dX10_isWaived_17 : decode cX10_isWaived 17 = .ok (.aload_n 0, 1) := by decide +kernel
theorem dX10_isWaived_18 : decode cX10_isWaived 18 = .ok (.getfield 61, 3) := by decide +kernel
theorem dX10_isWaived_21 : decode cX10_isWaived 21 = .ok (.getfield 278, 3) := by decide +kernel
theorem dX10_isWaived_24 : decode cX10_isWaived 24 = .ok (.invokevirtual 392, 3) := by decide +kernel
theorem dX10_isWaived_27 : decode cX10_isWaived 27 = .ok (.ifCond .eq 7, 3) := by decide +kernel
theorem dX10_isWaived_30 : decode cX10_isWaived 30 = .ok (.iconst 1, 1) := by decide +kernel
theorem dX10_isWaived_31 : decode cX10_isWaived 31 = .ok (.goto 4, 3) := by decide +kernel
theorem dX10_isWaived_34 : decode cX10_isWaived 34 = .ok (.iconst 0, 1) := by decide +kernel
theorem dX10_isWaived_35 : decode cX10_isWaived 35 = .ok (.ireturn, 1) := by decide +kernel
theorem dX10_isMetOrWaived_0 : decode cX10_isMetOrWaived 0 = .ok (.aload_n 0, 1) := by decide +kernel
theorem dX10_isMetOrWaived_1 : decode cX10_isMetOrWaived 1 = .ok (.getfield 54, 3) := by decide +kernel
theorem dX10_isMetOrWaived_4 : decode cX10_isMetOrWaived 4 = .ok (.iload_n 1, 1) := by decide +kernel
theorem dX10_isMetOrWaived_5 : decode cX10_isMetOrWaived 5 = .ok (.aload_n 0, 1) := by decide +kernel
theorem dX10_isMetOrWaived_6 : decode cX10_isMetOrWaived 6 = .ok (.iload_n 1, 1) := by decide +kernel
theorem dX10_isMetOrWaived_7 : decode cX10_isMetOrWaived 7 = .ok (.invokevirtual 249, 3) := by decide +kernel
theorem dX10_isMetOrWaived_10 : decode cX10_isMetOrWaived 10 = .ok (.invokevirtual 395, 3) := by decide +kernel
theorem dX10_isMetOrWaived_13 : decode cX10_isMetOrWaived 13 = .ok (.ifCond .ne 11, 3) := by decide +kernel
theorem dX10_isMetOrWaived_16 : decode cX10_isMetOrWaived 16 = .ok (.aload_n 0, 1) := by decide +kernel
theorem dX10_isMetOrWaived_17 : decode cX10_isMetOrWaived 17 = .ok (.iload_n 1, 1) := by decide +kernel
theorem dX10_isMetOrWaived_18 : decode cX10_isMetOrWaived 18 = .ok (.invokevirtual 240, 3) := by decide +kernel
theorem dX10_isMetOrWaived_21 : decode cX10_isMetOrWaived 21 = .ok (.ifCond .eq 7, 3) := by decide +kernel
theorem dX10_isMetOrWaived_24 : decode cX10_isMetOrWaived 24 = .ok (.iconst 1, 1) := by decide +kernel
theorem dX10_isMetOrWaived_25 : decode cX10_isMetOrWaived 25 = .ok (.goto 4, 3) := by decide +kernel
theorem dX10_isMetOrWaived_28 : decode cX10_isMetOrWaived 28 = .ok (.iconst 0, 1) := by decide +kernel
theorem dX10_isMetOrWaived_29 : decode cX10_isMetOrWaived 29 = .ok (.ireturn, 1) := by decide +kernel
theorem dX10_goThroughSecond_0 : decode cX10_goThroughSecond 0 = .ok (.aload_n 0, 1) := by decide +kernel
theorem dX10_goThroughSecond_1 : decode cX10_goThroughSecond 1 = .ok (.getfield 10, 3) := by decide +kernel
theorem dX10_goThroughSecond_4 : decode cX10_goThroughSecond 4 = .ok (.invokevirtual 398, 3) := by decide +kernel
theorem dX10_goThroughSecond_7 : decode cX10_goThroughSecond 7 = .ok (.aload_n 0, 1) := by decide +kernel
theorem dX10_goThroughSecond_8 : decode cX10_goThroughSecond 8 = .ok (.invokevirtual 275, 3) := by decide +kernel
theorem dX10_goThroughSecond_11 : decode cX10_goThroughSecond 11 = .ok (.ifCond .eq 17, 3) := by decide +kernel
theorem dX10_goThroughSecond_14 : decode cX10_goThroughSecond 14 = .ok (.aload_n 0, 1) := by decide +kernel
theorem dX10_goThroughSecond_15 : decode cX10_goThroughSecond 15 = .ok (.getfield 19, 3) := by decide +kernel
theorem dX10_goThroughSecond_18 : decode cX10_goThroughSecond 18 = .ok (.aload_n 0, 1) := by decide +kernel
theorem dX10_goThroughSecond_19 : decode cX10_goThroughSecond 19 = .ok (.getfield 61, 3) := by decide +kernel
theorem dX10_goThroughSecond_22 : decode cX10_goThroughSecond 22 = .ok (.getfield 278, 3) := by decide +kernel
theorem dX10_goThroughSecond_25 : decode cX10_goThroughSecond 25 = .ok (.invokevirtual 401, 3) := by decide +kernel
theorem dX10_goThroughSecond_28 : decode cX10_goThroughSecond 28 = .ok (.iconst 0, 1) := by decide +kernel
theorem dX10_goThroughSecond_29 : decode cX10_goThroughSecond 29 = .ok (.istore_n 1, 1) := by decide +kernel
theorem dX10_goThroughSecond_30 : decode cX10_goThroughSecond 30 = .ok (.iload_n 1, 1) := by decide +kernel
theorem dX10_goThroughSecond_31 : decode cX10_goThroughSecond 31 = .ok (.aload_n 0, 1) := by decide +kernel
theorem dX10_goThroughSecond_32 : decode cX10_goThroughSecond 32 = .ok (.getfield 54, 3) := by decide +kernel
theorem dX10_goThroughSecond_35 : decode cX10_goThroughSecond 35 = .ok (.getfield 220, 3) := by decide +kernel
theorem dX10_goThroughSecond_38 : decode cX10_goThroughSecond 38 = .ok (.if_icmp .ge 22, 3) := by decide +kernel
theorem dX10_goThroughSecond_41 : decode cX10_goThroughSecond 41 = .ok (.aload_n 0, 1) := by decide +kernel
theorem dX10_goThroughSecond_42 : decode cX10_goThroughSecond 42 = .ok (.getfield 54, 3) := by decide +kernel
theorem dX10_goThroughSecond_45 : decode cX10_goThroughSecond 45 = .ok (.iload_n 1, 1) := by decide +kernel
theorem dX10_goThroughSecond_46 : decode cX10_goThroughSecond 46 = .ok (.aload_n 0, 1) := by decide +kernel
theorem dX10_goThroughSecond_47 : decode cX10_goThroughSecond 47 = .ok (.iload_n 1, 1) := by decide +kernel
theorem dX10_goThroughSecond_48 : decode cX10_goThroughSecond 48 = .ok (.invokevirtual 249, 3) := by decide +kernel
theorem dX10_goThroughSecond_51 : decode cX10_goThroughSecond 51 = .ok (.invokevirtual 404, 3) := by decide +kernel
theorem dX10_goThroughSecond_54 : decode cX10_goThroughSecond 54 = .ok (.iinc 1 1, 3) := by decide +kernel
theorem dX10_goThroughSecond_57 : decode cX10_goThroughSecond 57 = .ok (.goto (-27), 3) := by decide +kernel
theorem dX10_goThroughSecond_60 : decode cX10_goThroughSecond 60 = .ok (.aload_n 0, 1) := by decide +kernel
theorem dX10_goThroughSecond_61 : decode cX10_goThroughSecond 61 = .ok (.invokevirtual 275, 3) := by decide +kernel
theorem dX10_goThroughSecond_64 : decode cX10_goThroughSecond 64 = .ok (.ifCond .eq 10, 3) := by decide +kernel
theorem dX10_goThroughSecond_67 : decode cX10_goThroughSecond 67 = .ok (.aload_n 0, 1) := by decide +kernel
theorem dX10_goThroughSecond_68 : decode cX10_goThroughSecond 68 = .ok (.invokevirtual 408, 3) := by decide +kernel
theorem dX10_goThroughSecond_71 : decode cX10_goThroughSecond 71 = .ok (.goto 14, 3) := by decide +kernel
theorem dX10_goThroughSecond_74 : decode cX10_goThroughSecond 74 = .ok (.aload_n 0, 1) := by decide +kernel
theorem dX10_goThroughSecond_75 : decode cX10_goThroughSecond 75 = .ok (.invokevirtual 367, 3) := by decide +kernel
theorem dX10_goThroughSecond_78 : decode cX10_goThroughSecond 78 = .ok (.ifCond .eq 7, 3) := by decide +kernel
theorem dX10_goThroughSecond_81 : decode cX10_goThroughSecond 81 = .ok (.aload_n 0, 1) := by decide +kernel
theorem dX10_goThroughSecond_82 : decode cX10_goThroughSecond 82 = .ok (.invokevirtual 411, 3) := by decide +kernel
theorem dX10_goThroughSecond_85 : decode cX10_goThroughSecond 85 = .ok (.aload_n 0, 1) := by decide +kernel
theorem dX10_goThroughSecond_86 : decode cX10_goThroughSecond 86 = .ok (.dup, 1) := by decide +kernel
theorem dX10_goThroughSecond_87 : decode cX10_goThroughSecond 87 = .ok (.getfield 87, 3) := by decide +kernel
theorem dX10_goThroughSecond_90 : decode cX10_goThroughSecond 90 = .ok (.iconst 1, 1) := by decide +kernel
theorem dX10_goThroughSecond_91 : decode cX10_goThroughSecond 91 = .ok (.iadd, 1) := by decide +kernel
theorem dX10_goThroughSecond_92 : decode cX10_goThroughSecond 92 = .ok (.putfield 87, 3) := by decide +kernel
theorem dX10_goThroughSecond_95 : decode cX10_goThroughSecond 95 = .ok (.aload_n 0, 1) := by decide +kernel
theorem dX10_goThroughSecond_96 : decode cX10_goThroughSecond 96 = .ok (.getfield 40, 3) := by decide +kernel
theorem dX10_goThroughSecond_99 : decode cX10_goThroughSecond 99 = .ok (.aload_n 0, 1) := by decide +kernel
theorem dX10_goThroughSecond_100 : decode cX10_goThroughSecond 100 = .ok (.getfield 87, 3) := by decide +kernel
theorem dX10_goThroughSecond_103 : decode cX10_goThroughSecond 103 = .ok (.invokevirtual 414, 3) := by decide +kernel
theorem dX10_goThroughSecond_106 : decode cX10_goThroughSecond 106 = .ok (.return_, 1) := by decide +kernel
theorem dX10_countOn_0 : decode cX10_countOn 0 = .ok (.aload_n 0, 1) := by decide +kernel
theorem dX10_countOn_1 : decode cX10_countOn 1 = .ok (.getfield 54, 3) := by decide +kernel
theorem dX10_countOn_4 : decode cX10_countOn 4 = .ok (.aload_n 0, 1) := by decide +kernel
theorem dX10_countOn_5 : decode cX10_countOn 5 = .ok (.getfield 61, 3) := by decide +kernel
theorem dX10_countOn_8 : decode cX10_countOn 8 = .ok (.getfield 278, 3) := by decide +kernel
theorem dX10_countOn_11 : decode cX10_countOn 11 = .ok (.invokevirtual 417, 3) := by decide +kernel
theorem dX10_countOn_14 : decode cX10_countOn 14 = .ok (.istore_n 1, 1) := by decide +kernel
theorem dX10_countOn_15 : decode cX10_countOn 15 = .ok (.iload_n 1, 1) := by decide +kernel
theorem dX10_countOn_16 : decode cX10_countOn 16 = .ok (.iconst (-1), 1) := by decide +kernel
theorem dX10_countOn_17 : decode cX10_countOn 17 = .ok (.if_icmp .eq 20, 3) := by decide +kernel
theorem dX10_countOn_20 : decode cX10_countOn 20 = .ok (.aload_n 0, 1) := by decide +kernel
theorem dX10_countOn_21 : decode cX10_countOn 21 = .ok (.aload_n 0, 1) := by decide +kernel
theorem dX10_countOn_22 : decode cX10_countOn 22 = .ok (.getfield 54, 3) := by decide +kernel
theorem dX10_countOn_25 : decode cX10_countOn 25 = .ok (.getfield 386, 3) := by decide +kernel
theorem dX10_countOn_28 : decode cX10_countOn 28 = .ok (.iload_n 1, 1) := by decide +kernel
theorem dX10_countOn_29 : decode cX10_countOn 29 = .ok (.caload, 1) := by decide +kernel
theorem dX10_countOn_30 : decode cX10_countOn 30 = .ok (.iload_n 1, 1) := by decide +kernel
theorem dX10_countOn_31 : decode cX10_countOn 31 = .ok (.invokevirtual 420, 3) := by decide +kernel
theorem dX10_countOn_34 : decode cX10_countOn 34 = .ok (.goto 82, 3) := by decide +kernel
theorem dX10_countOn_37 : decode cX10_countOn 37 = .ok (.aload_n 0, 1) := by decide +kernel
theorem dX10_countOn_38 : decode cX10_countOn 38 = .ok (.getfield 26, 3) := by decide +kernel
theorem dX10_countOn_41 : decode cX10_countOn 41 = .ok (.aload_n 0, 1) := by decide +kernel
theorem dX10_countOn_42 : decode cX10_countOn 42 = .ok (.getfield 61, 3) := by decide +kernel
theorem dX10_countOn_45 : decode cX10_countOn 45 = .ok (.getfield 278, 3) := by decide +kernel
theorem dX10_countOn_48 : decode cX10_countOn 48 = .ok (.aload_n 0, 1) := by decide +kernel
theorem dX10_countOn_49 : decode cX10_countOn 49 = .ok (.getfield 61, 3) := by decide +kernel
theorem dX10_countOn_52 : decode cX10_countOn 52 = .ok (.getfield 423, 3) := by decide +kernel
theorem dX10_countOn_55 : decode cX10_countOn 55 = .ok (.aload_n 0, 1) := by decide +kernel
theorem dX10_countOn_56 : decode cX10_countOn 56 = .ok (.getfield 19, 3) := by decide +kernel
theorem dX10_countOn_59 : decode cX10_countOn 59 = .ok (.invokevirtual 426, 3) := by decide +kernel
theorem dX10_countOn_62 : decode cX10_countOn 62 = .ok (.ifCond .eq 13, 3) := by decide +kernel
theorem dX10_countOn_65 : decode cX10_countOn 65 = .ok (.aload_n 0, 1) := by decide +kernel
theorem dX10_countOn_66 : decode cX10_countOn 66 = .ok (.bipush 109, 2) := by decide +kernel
theorem dX10_countOn_68 : decode cX10_countOn 68 = .ok (.iconst (-1), 1) := by decide +kernel
theorem dX10_countOn_69 : decode cX10_countOn 69 = .ok (.invokevirtual 420, 3) := by decide +kernel
theorem dX10_countOn_72 : decode cX10_countOn 72 = .ok (.goto 44, 3) := by decide +kernel
theorem dX10_countOn_75 : decode cX10_countOn 75 = .ok (.aload_n 0, 1) := by decide +kernel
theorem dX10_countOn_76 : decode cX10_countOn 76 = .ok (.getfield 61, 3) := by decide +kernel
theorem dX10_countOn_79 : decode cX10_countOn 79 = .ok (.getfield 278, 3) := by decide +kernel
theorem dX10_countOn_82 : decode cX10_countOn 82 = .ok (.iconst (-1), 1) := by decide +kernel
theorem dX10_countOn_83 : decode cX10_countOn 83 = .ok (.if_icmp .ne 29, 3) := by decide +kernel
theorem dX10_countOn_86 : decode cX10_countOn 86 = .ok (.aload_n 0, 1) := by decide +kernel
theorem dX10_countOn_87 : decode cX10_countOn 87 = .ok (.getfield 87, 3) := by decide +kernel
theorem dX10_countOn_90 : decode cX10_countOn 90 = .ok (.iconst 1, 1) := by decide +kernel
theorem dX10_countOn_91 : decode cX10_countOn 91 = .ok (.iadd, 1) := by decide +kernel
theorem dX10_countOn_92 : decode cX10_countOn 92 = .ok (.aload_n 0, 1) := by decide +kernel
theorem dX10_countOn_93 : decode cX10_countOn 93 = .ok (.getfield 61, 3) := by decide +kernel
theorem dX10_countOn_96 : decode cX10_countOn 96 = .ok (.getfield 430, 3) := by decide +kernel
theorem dX10_countOn_99 : decode cX10_countOn 99 = .ok (.if_icmp .ge 13, 3) := by decide +kernel
theorem dX10_countOn_102 : decode cX10_countOn 102 = .ok (.aload_n 0, 1) := by decide +kernel
theorem dX10_countOn_103 : decode cX10_countOn 103 = .ok (.bipush 111, 2) := by decide +kernel
theorem dX10_countOn_105 : decode cX10_countOn 105 = .ok (.iconst (-1), 1) := by decide +kernel
theorem dX10_countOn_106 : decode cX10_countOn 106 = .ok (.invokevirtual 420, 3) := by decide +kernel
theorem dX10_countOn_109 : decode cX10_countOn 109 = .ok (.goto 7, 3) := by decide +kernel
theorem dX10_countOn_112 : decode cX10_countOn 112 = .ok (.aload_n 0, 1) := by decide +kernel
theorem dX10_countOn_113 : decode cX10_countOn 113 = .ok (.invokevirtual 433, 3) := by decide +kernel
theorem dX10_countOn_116 : decode cX10_countOn 116 = .ok (.aload_n 0, 1) := by decide +kernel
theorem dX10_countOn_117 : decode cX10_countOn 117 = .ok (.invokevirtual 275, 3) := by decide +kernel
theorem dX10_countOn_120 : decode cX10_countOn 120 = .ok (.ifCond .eq 49, 3) := by decide +kernel
theorem dX10_countOn_123 : decode cX10_countOn 123 = .ok (.aload_n 0, 1) := by decide +kernel
theorem dX10_countOn_124 : decode cX10_countOn 124 = .ok (.getfield 87, 3) := by decide +kernel
theorem dX10_countOn_127 : decode cX10_countOn 127 = .ok (.iconst 1, 1) := by decide +kernel
theorem dX10_countOn_128 : decode cX10_countOn 128 = .ok (.iadd, 1) := by decide +kernel
theorem dX10_countOn_129 : decode cX10_countOn 129 = .ok (.aload_n 0, 1) := by decide +kernel
theorem dX10_countOn_130 : decode cX10_countOn 130 = .ok (.getfield 61, 3) := by decide +kernel
theorem dX10_countOn_133 : decode cX10_countOn 133 = .ok (.getfield 278, 3) := by decide +kernel
theorem dX10_countOn_136 : decode cX10_countOn 136 = .ok (.isub, 1) := by decide +kernel
theorem dX10_countOn_137 : decode cX10_countOn 137 = .ok (.aload_n 0, 1) := by decide +kernel
theorem dX10_countOn_138 : decode cX10_countOn 138 = .ok (.getfield 61, 3) := by decide +kernel
theorem dX10_countOn_141 : decode cX10_countOn 141 = .ok (.getfield 436, 3) := by decide +kernel
theorem dX10_countOn_144 : decode cX10_countOn 144 = .ok (.if_icmp .le 25, 3) := by decide +kernel
theorem dX10_countOn_147 : decode cX10_countOn 147 = .ok (.aload_n 0, 1) := by decide +kernel
theorem dX10_countOn_148 : decode cX10_countOn 148 = .ok (.getfield 61, 3) := by decide +kernel
theorem dX10_countOn_151 : decode cX10_countOn 151 = .ok (.invokevirtual 439, 3) := by decide +kernel
theorem dX10_countOn_154 : decode cX10_countOn 154 = .ok (.aload_n 0, 1) := by decide +kernel
theorem dX10_countOn_155 : decode cX10_countOn 155 = .ok (.getfield 75, 3) := by decide +kernel
theorem dX10_countOn_158 : decode cX10_countOn 158 = .ok (.aload_n 0, 1) := by decide +kernel
theorem dX10_countOn_159 : decode cX10_countOn 159 = .ok (.getfield 87, 3) := by decide +kernel
theorem dX10_countOn_162 : decode cX10_countOn 162 = .ok (.bipush 83, 2) := by decide +kernel
theorem dX10_countOn_164 : decode cX10_countOn 164 = .ok (.bipush 115, 2) := by decide +kernel
theorem dX10_countOn_166 : decode cX10_countOn 166 = .ok (.invokevirtual 269, 3) := by decide +kernel
theorem dX10_countOn_169 : decode cX10_countOn 169 = .ok (.return_, 1) := by decide +kernel
theorem dX10_hold_0 : decode cX10_hold 0 = .ok (.aload_n 0, 1) := by decide +kernel
theorem dX10_hold_1 : decode cX10_hold 1 = .ok (.getfield 61, 3) := by decide +kernel
theorem dX10_hold_4 : decode cX10_hold 4 = .ok (.iload_n 1, 1) := by decide +kernel
theorem dX10_hold_5 : decode cX10_hold 5 = .ok (.iload_n 2, 1) := by decide +kernel
theorem dX10_hold_6 : decode cX10_hold 6 = .ok (.invokevirtual 442, 3) := by decide +kernel
theorem dX10_hold_9 : decode cX10_hold 9 = .ok (.aload_n 0, 1) := by decide +kernel
theorem dX10_hold_10 : decode cX10_hold 10 = .ok (.getfield 75, 3) := by decide +kernel
theorem dX10_hold_13 : decode cX10_hold 13 = .ok (.getfield 306, 3) := by decide +kernel
theorem dX10_hold_16 : decode cX10_hold 16 = .ok (.bipush 99, 2) := by decide +kernel
theorem dX10_hold_18 : decode cX10_hold 18 = .ok (.if_icmp .ne 18, 3) := by decide +kernel
theorem dX10_hold_21 : decode cX10_hold 21 = .ok (.aload_n 0, 1) := by decide +kernel
theorem dX10_hold_22 : decode cX10_hold 22 = .ok (.getfield 75, 3) := by decide +kernel
theorem dX10_hold_25 : decode cX10_hold 25 = .ok (.aload_n 0, 1) := by decide +kernel
theorem dX10_hold_26 : decode cX10_hold 26 = .ok (.getfield 87, 3) := by decide +kernel
theorem dX10_hold_29 : decode cX10_hold 29 = .ok (.bipush 72, 2) := by decide +kernel
theorem dX10_hold_31 : decode cX10_hold 31 = .ok (.bipush 104, 2) := by decide +kernel
theorem dX10_hold_33 : decode cX10_hold 33 = .ok (.invokevirtual 269, 3) := by decide +kernel
theorem dX10_hold_36 : decode cX10_hold 36 = .ok (.return_, 1) := by decide +kernel
theorem dX10_goFurther_0 : decode cX10_goFurther 0 = .ok (.aload_n 0, 1) := by decide +kernel
theorem dX10_goFurther_1 : decode cX10_goFurther 1 = .ok (.getfield 75, 3) := by decide +kernel
theorem dX10_goFurther_4 : decode cX10_goFurther 4 = .ok (.getfield 306, 3) := by decide +kernel
theorem dX10_goFurther_7 : decode cX10_goFurther 7 = .ok (.bipush 104, 2) := by decide +kernel
theorem dX10_goFurther_9 : decode cX10_goFurther 9 = .ok (.if_icmp .ne 18, 3) := by decide +kernel
theorem dX10_goFurther_12 : decode cX10_goFurther 12 = .ok (.aload_n 0, 1) := by decide +kernel
theorem dX10_goFurther_13 : decode cX10_goFurther 13 = .ok (.getfield 75, 3) := by decide +kernel
theorem dX10_goFurther_16 : decode cX10_goFurther 16 = .ok (.aload_n 0, 1) := by decide +kernel
theorem dX10_goFurther_17 : decode cX10_goFurther 17 = .ok (.getfield 87, 3) := by decide +kernel
theorem dX10_goFurther_20 : decode cX10_goFurther 20 = .ok (.bipush 71, 2) := by decide +kernel
theorem dX10_goFurther_22 : decode cX10_goFurther 22 = .ok (.bipush 99, 2) := by decide +kernel
theorem dX10_goFurther_24 : decode cX10_goFurther 24 = .ok (.invokevirtual 269, 3) := by decide +kernel
theorem dX10_goFurther_27 : decode cX10_goFurther 27 = .ok (.aload_n 0, 1) := by decide +kernel
theorem dX10_goFurther_28 : decode cX10_goFurther 28 = .ok (.getfield 54, 3) := by decide +kernel
theorem dX10_goFurther_31 : decode cX10_goFurther 31 = .ok (.aload_n 0, 1) := by decide +kernel
theorem dX10_goFurther_32 : decode cX10_goFurther 32 = .ok (.getfield 61, 3) := by decide +kernel
theorem dX10_goFurther_35 : decode cX10_goFurther 35 = .ok (.getfield 278, 3) := by decide +kernel
theorem dX10_goFurther_38 : decode cX10_goFurther 38 = .ok (.invokevirtual 445, 3) := by decide +kernel
theorem dX10_goFurther_41 : decode cX10_goFurther 41 = .ok (.istore_n 1, 1) := by decide +kernel
theorem dX10_goFurther_42 : decode cX10_goFurther 42 = .ok (.aload_n 0, 1) := by decide +kernel
theorem dX10_goFurther_43 : decode cX10_goFurther 43 = .ok (.getfield 61, 3) := by decide +kernel
theorem dX10_goFurther_46 : decode cX10_goFurther 46 = .ok (.invokevirtual 448, 3) := by decide +kernel
theorem dX10_goFurther_49 : decode cX10_goFurther 49 = .ok (.aload_n 0, 1) := by decide +kernel
theorem dX10_goFurther_50 : decode cX10_goFurther 50 = .ok (.getfield 61, 3) := by decide +kernel
theorem dX10_goFurther_53 : decode cX10_goFurther 53 = .ok (.getfield 278, 3) := by decide +kernel
theorem dX10_goFurther_56 : decode cX10_goFurther 56 = .ok (.ifCond .ne 48, 3) := by decide +kernel
theorem dX10_goFurther_59 : decode cX10_goFurther 59 = .ok (.aload_n 0, 1) := by decide +kernel
theorem dX10_goFurther_60 : decode cX10_goFurther 60 = .ok (.getfield 61, 3) := by decide +kernel
theorem dX10_goFurther_63 : decode cX10_goFurther 63 = .ok (.aload_n 0, 1) := by decide +kernel
theorem dX10_goFurther_64 : decode cX10_goFurther 64 = .ok (.getfield 87, 3) := by decide +kernel
theorem dX10_goFurther_67 : decode cX10_goFurther 67 = .ok (.iconst 1, 1) := by decide +kernel
theorem dX10_goFurther_68 : decode cX10_goFurther 68 = .ok (.iadd, 1) := by decide +kernel
theorem dX10_goFurther_69 : decode cX10_goFurther 69 = .ok (.invokevirtual 377, 3) := by decide +kernel
theorem dX10_goFurther_72 : decode cX10_goFurther 72 = .ok (.ifCond .eq 32, 3) := by decide +kernel
theorem dX10_goFurther_75 : decode cX10_goFurther 75 = .ok (.aload_n 0, 1) := by decide +kernel
theorem dX10_goFurther_76 : decode cX10_goFurther 76 = .ok (.getfield 68, 3) := by decide +kernel
theorem dX10_goFurther_79 : decode cX10_goFurther 79 = .ok (.aload_n 0, 1) := by decide +kernel
theorem dX10_goFurther_80 : decode cX10_goFurther 80 = .ok (.getfield 87, 3) := by decide +kernel
theorem dX10_goFurther_83 : decode cX10_goFurther 83 = .ok (.iconst 1, 1) := by decide +kernel
theorem dX10_goFurther_84 : decode cX10_goFurther 84 = .ok (.iadd, 1) := by decide +kernel
theorem dX10_goFurther_85 : decode cX10_goFurther 85 = .ok (.iload_n 1, 1) := by decide +kernel
theorem dX10_goFurther_86 : decode cX10_goFurther 86 = .ok (.invokevirtual 451, 3) := by decide +kernel
theorem dX10_goFurther_89 : decode cX10_goFurther 89 = .ok (.aload_n 0, 1) := by decide +kernel
theorem dX10_goFurther_90 : decode cX10_goFurther 90 = .ok (.getfield 75, 3) := by decide +kernel
theorem dX10_goFurther_93 : decode cX10_goFurther 93 = .ok (.aload_n 0, 1) := by decide +kernel
theorem dX10_goFurther_94 : decode cX10_goFurther 94 = .ok (.getfield 87, 3) := by decide +kernel
theorem dX10_goFurther_97 : decode cX10_goFurther 97 = .ok (.bipush 70, 2) := by decide +kernel
theorem dX10_goFurther_99 : decode cX10_goFurther 99 = .ok (.bipush 102, 2) := by decide +kernel
theorem dX10_goFurther_101 : decode cX10_goFurther 101 = .ok (.invokevirtual 269, 3) := by decide +kernel
theorem dX10_goFurther_104 : decode cX10_goFurther 104 = .ok (.return_, 1) := by decide +kernel
theorem dX10_flyOn_0 : decode cX10_flyOn 0 = .ok (.aload_n 0, 1) := by decide +kernel
theorem dX10_flyOn_1 : decode cX10_flyOn 1 = .ok (.getfield 61, 3) := by decide +kernel
theorem dX10_flyOn_4 : decode cX10_flyOn 4 = .ok (.dup, 1) := by decide +kernel
theorem dX10_flyOn_5 : decode cX10_flyOn 5 = .ok (.getfield 278, 3) := by decide +kernel
theorem dX10_flyOn_8 : decode cX10_flyOn 8 = .ok (.iconst 1, 1) := by decide +kernel
theorem dX10_flyOn_9 : decode cX10_flyOn 9 = .ok (.iadd, 1) := by decide +kernel
theorem dX10_flyOn_10 : decode cX10_flyOn 10 = .ok (.putfield 278, 3) := by decide +kernel
theorem dX10_flyOn_13 : decode cX10_flyOn 13 = .ok (.aload_n 0, 1) := by decide +kernel
theorem dX10_flyOn_14 : decode cX10_flyOn 14 = .ok (.getfield 75, 3) := by decide +kernel
theorem dX10_flyOn_17 : decode cX10_flyOn 17 = .ok (.getfield 306, 3) := by decide +kernel
theorem dX10_flyOn_20 : decode cX10_flyOn 20 = .ok (.bipush 102, 2) := by decide +kernel
theorem dX10_flyOn_22 : decode cX10_flyOn 22 = .ok (.if_icmp .eq 4, 3) := by decide +kernel
theorem dX10_flyOn_25 : decode cX10_flyOn 25 = .ok (.return_, 1) := by decide +kernel
theorem dX10_flyOn_26 : decode cX10_flyOn 26 = .ok (.aload_n 0, 1) := by decide +kernel
theorem dX10_flyOn_27 : decode cX10_flyOn 27 = .ok (.getfield 68, 3) := by decide +kernel
theorem dX10_flyOn_30 : decode cX10_flyOn 30 = .ok (.invokevirtual 455, 3) := by decide +kernel
theorem dX10_flyOn_33 : decode cX10_flyOn 33 = .ok (.aload_n 0, 1) := by decide +kernel
theorem dX10_flyOn_34 : decode cX10_flyOn 34 = .ok (.getfield 68, 3) := by decide +kernel
theorem dX10_flyOn_37 : decode cX10_flyOn 37 = .ok (.invokevirtual 458, 3) := by decide +kernel
theorem dX10_flyOn_40 : decode cX10_flyOn 40 = .ok (.ifCond .eq 12, 3) := by decide +kernel
theorem dX10_flyOn_43 : decode cX10_flyOn 43 = .ok (.aload_n 0, 1) := by decide +kernel
theorem dX10_flyOn_44 : decode cX10_flyOn 44 = .ok (.bipush 100, 2) := by decide +kernel
theorem dX10_flyOn_46 : decode cX10_flyOn 46 = .ok (.invokevirtual 461, 3) := by decide +kernel
theorem dX10_flyOn_49 : decode cX10_flyOn 49 = .ok (.goto 50, 3) := by decide +kernel
theorem dX10_flyOn_52 : decode cX10_flyOn 52 = .ok (.aload_n 0, 1) := by decide +kernel
theorem dX10_flyOn_53 : decode cX10_flyOn 53 = .ok (.getfield 68, 3) := by decide +kernel
theorem dX10_flyOn_56 : decode cX10_flyOn 56 = .ok (.getfield 465, 3) := by decide +kernel
theorem dX10_flyOn_59 : decode cX10_flyOn 59 = .ok (.iconst 3, 1) := by decide +kernel
theorem dX10_flyOn_60 : decode cX10_flyOn 60 = .ok (.if_icmp .lt 12, 3) := by decide +kernel
theorem dX10_flyOn_63 : decode cX10_flyOn 63 = .ok (.aload_n 0, 1) := by decide +kernel
theorem dX10_flyOn_64 : decode cX10_flyOn 64 = .ok (.bipush 114, 2) := by decide +kernel
theorem dX10_flyOn_66 : decode cX10_flyOn 66 = .ok (.invokevirtual 461, 3) := by decide +kernel
theorem dX10_flyOn_69 : decode cX10_flyOn 69 = .ok (.goto 30, 3) := by decide +kernel
theorem dX10_flyOn_72 : decode cX10_flyOn 72 = .ok (.aload_n 0, 1) := by decide +kernel
theorem dX10_flyOn_73 : decode cX10_flyOn 73 = .ok (.getfield 61, 3) := by decide +kernel
theorem dX10_flyOn_76 : decode cX10_flyOn 76 = .ok (.getfield 278, 3) := by decide +kernel
theorem dX10_flyOn_79 : decode cX10_flyOn 79 = .ok (.bipush 60, 2) := by decide +kernel
theorem dX10_flyOn_81 : decode cX10_flyOn 81 = .ok (.if_icmp .lt 18, 3) := by decide +kernel
theorem dX10_flyOn_84 : decode cX10_flyOn 84 = .ok (.aload_n 0, 1) := by decide +kernel
theorem dX10_flyOn_85 : decode cX10_flyOn 85 = .ok (.getfield 75, 3) := by decide +kernel
theorem dX10_flyOn_88 : decode cX10_flyOn 88 = .ok (.aload_n 0, 1) := by decide +kernel
theorem dX10_flyOn_89 : decode cX10_flyOn 89 = .ok (.getfield 87, 3) := by decide +kernel
theorem dX10_flyOn_92 : decode cX10_flyOn 92 = .ok (.bipush 79, 2) := by decide +kernel
theorem dX10_flyOn_94 : decode cX10_flyOn 94 = .ok (.bipush 111, 2) := by decide +kernel
theorem dX10_flyOn_96 : decode cX10_flyOn 96 = .ok (.invokevirtual 269, 3) := by decide +kernel
theorem dX10_flyOn_99 : decode cX10_flyOn 99 = .ok (.return_, 1) := by decide +kernel
theorem dX10_destroy_0 : decode cX10_destroy 0 = .ok (.aload_n 0, 1) := by decide +kernel
theorem dX10_destroy_1 : decode cX10_destroy 1 = .ok (.getfield 61, 3) := by decide +kernel
theorem dX10_destroy_4 : decode cX10_destroy 4 = .ok (.iload_n 1, 1) := by decide +kernel
theorem dX10_destroy_5 : decode cX10_destroy 5 = .ok (.iconst (-1), 1) := by decide +kernel
theorem dX10_destroy_6 : decode cX10_destroy 6 = .ok (.invokevirtual 292, 3) := by decide +kernel
theorem dX10_destroy_9 : decode cX10_destroy 9 = .ok (.aload_n 0, 1) := by decide +kernel
theorem dX10_destroy_10 : decode cX10_destroy 10 = .ok (.getfield 75, 3) := by decide +kernel
theorem dX10_destroy_13 : decode cX10_destroy 13 = .ok (.aload_n 0, 1) := by decide +kernel
theorem dX10_destroy_14 : decode cX10_destroy 14 = .ok (.getfield 87, 3) := by decide +kernel
theorem dX10_destroy_17 : decode cX10_destroy 17 = .ok (.bipush 88, 2) := by decide +kernel
theorem dX10_destroy_19 : decode cX10_destroy 19 = .ok (.bipush 120, 2) := by decide +kernel
theorem dX10_destroy_21 : decode cX10_destroy 21 = .ok (.invokevirtual 269, 3) := by decide +kernel
theorem dX10_destroy_24 : decode cX10_destroy 24 = .ok (.return_, 1) := by decide +kernel
theorem dX11_init_0 : decode cX11_init 0 = .ok (.aload_n 0, 1) := by decide +kernel
theorem dX11_init_1 : decode cX11_init 1 = .ok (.invokespecial 1, 3) := by decide +kernel
theorem dX11_init_4 : decode cX11_init 4 = .ok (.aload_n 0, 1) := by decide +kernel
theorem dX11_init_5 : decode cX11_init 5 = .ok (.bipush 45, 2) := by decide +kernel
theorem dX11_init_7 : decode cX11_init 7 = .ok (.putfield 7, 3) := by decide +kernel
theorem dX11_init_10 : decode cX11_init 10 = .ok (.aload_n 0, 1) := by decide +kernel
theorem dX11_init_11 : decode cX11_init 11 = .ok (.iconst (-1), 1) := by decide +kernel
theorem dX11_init_12 : decode cX11_init 12 = .ok (.putfield 13, 3) := by decide +kernel
theorem dX11_init_15 : decode cX11_init 15 = .ok (.aload_n 0, 1) := by decide +kernel
theorem dX11_init_16 : decode cX11_init 16 = .ok (.iconst (-1), 1) := by decide +kernel
theorem dX11_init_17 : decode cX11_init 17 = .ok (.putfield 17, 3) := by decide +kernel
theorem dX11_init_20 : decode cX11_init 20 = .ok (.aload_n 0, 1) := by decide +kernel
theorem dX11_init_21 : decode cX11_init 21 = .ok (.iconst 3, 1) := by decide +kernel
theorem dX11_init_22 : decode cX11_init 22 = .ok (.newarray .int, 2) := by decide +kernel
theorem dX11_init_24 : decode cX11_init 24 = .ok (.putfield 20, 3) := by decide +kernel
theorem dX11_init_27 : decode cX11_init 27 = .ok (.aload_n 0, 1) := by decide +kernel
theorem dX11_init_28 : decode cX11_init 28 = .ok (.iconst 3, 1) := by decide +kernel
theorem dX11_init_29 : decode cX11_init 29 = .ok (.newarray .int, 2) := by decide +kernel
theorem dX11_init_31 : decode cX11_init 31 = .ok (.putfield 24, 3) := by decide +kernel
theorem dX11_init_34 : decode cX11_init 34 = .ok (.aload_n 0, 1) := by decide +kernel
theorem dX11_init_35 : decode cX11_init 35 = .ok (.iconst 3, 1) := by decide +kernel
theorem dX11_init_36 : decode cX11_init 36 = .ok (.newarray .int, 2) := by decide +kernel
theorem dX11_init_38 : decode cX11_init 38 = .ok (.putfield 27, 3) := by decide +kernel
theorem dX11_init_41 : decode cX11_init 41 = .ok (.aload_n 0, 1) := by decide +kernel
theorem dX11_init_42 : decode cX11_init 42 = .ok (.iconst 3, 1) := by decide +kernel
theorem dX11_init_43 : decode cX11_init 43 = .ok (.newarray .int, 2) := by decide +kernel
theorem dX11_init_45 : decode cX11_init 45 = .ok (.putfield 30, 3) := by decide +kernel
theorem dX11_init_48 : decode cX11_init 48 = .ok (.aload_n 0, 1) := by decide +kernel
theorem dX11_init_49 : decode cX11_init 49 = .ok (.iconst 3, 1) := by decide +kernel
theorem dX11_init_50 : decode cX11_init 50 = .ok (.newarray .boolean, 2) := by decide +kernel
theorem dX11_init_52 : decode cX11_init 52 = .ok (.putfield 33, 3) := by decide +kernel
theorem dX11_init_55 : decode cX11_init 55 = .ok (.aload_n 0, 1) := by decide +kernel
theorem dX11_init_56 : decode cX11_init 56 = .ok (.bipush 16, 2) := by decide +kernel
theorem dX11_init_58 : decode cX11_init 58 = .ok (.newarray .int, 2) := by decide +kernel
theorem dX11_init_60 : decode cX11_init 60 = .ok (.putfield 37, 3) := by decide +kernel
theorem dX11_init_63 : decode cX11_init 63 = .ok (.aload_n 0, 1) := by decide +kernel
theorem dX11_init_64 : decode cX11_init 64 = .ok (.bipush 16, 2) := by decide +kernel
theorem dX11_init_66 : decode cX11_init 66 = .ok (.newarray .int, 2) := by decide +kernel
theorem dX11_init_68 : decode cX11_init 68 = .ok (.putfield 40, 3) := by decide +kernel
theorem dX11_init_71 : decode cX11_init 71 = .ok (.aload_n 0, 1) := by decide +kernel
theorem dX11_init_72 : decode cX11_init 72 = .ok (.bipush 16, 2) := by decide +kernel
theorem dX11_init_74 : decode cX11_init 74 = .ok (.newarray .int, 2) := by decide +kernel
theorem dX11_init_76 : decode cX11_init 76 = .ok (.putfield 43, 3) := by decide +kernel
theorem dX11_init_79 : decode cX11_init 79 = .ok (.aload_n 0, 1) := by decide +kernel
theorem dX11_init_80 : decode cX11_init 80 = .ok (.bipush 16, 2) := by decide +kernel
theorem dX11_init_82 : decode cX11_init 82 = .ok (.newarray .char, 2) := by decide +kernel
theorem dX11_init_84 : decode cX11_init 84 = .ok (.putfield 46, 3) := by decide +kernel
theorem dX11_init_87 : decode cX11_init 87 = .ok (.aload_n 0, 1) := by decide +kernel
theorem dX11_init_88 : decode cX11_init 88 = .ok (.bipush 16, 2) := by decide +kernel
theorem dX11_init_90 : decode cX11_init 90 = .ok (.newarray .int, 2) := by decide +kernel
theorem dX11_init_92 : decode cX11_init 92 = .ok (.putfield 50, 3) := by decide +kernel
theorem dX11_init_95 : decode cX11_init 95 = .ok (.aload_n 0, 1) := by decide +kernel
theorem dX11_init_96 : decode cX11_init 96 = .ok (.bipush 6, 2) := by decide +kernel
theorem dX11_init_98 : decode cX11_init 98 = .ok (.newarray .int, 2) := by decide +kernel
theorem dX11_init_100 : decode cX11_init 100 = .ok (.putfield 53, 3) := by decide +kernel
theorem dX11_init_103 : decode cX11_init 103 = .ok (.aload_n 0, 1) := by decide +kernel
theorem dX11_init_104 : decode cX11_init 104 = .ok (.bipush 6, 2) := by decide +kernel
theorem dX11_init_106 : decode cX11_init 106 = .ok (.newarray .int, 2) := by decide +kernel
theorem dX11_init_108 : decode cX11_init 108 = .ok (.putfield 56, 3) := by decide +kernel
theorem dX11_init_111 : decode cX11_init 111 = .ok (.aload_n 0, 1) := by decide +kernel
theorem dX11_init_112 : decode cX11_init 112 = .ok (.bipush 6, 2) := by decide +kernel
theorem dX11_init_114 : decode cX11_init 114 = .ok (.newarray .int, 2) := by decide +kernel
theorem dX11_init_116 : decode cX11_init 116 = .ok (.putfield 59, 3) := by decide +kernel
theorem dX11_init_119 : decode cX11_init 119 = .ok (.aload_n 0, 1) := by decide +kernel
theorem dX11_init_120 : decode cX11_init 120 = .ok (.bipush 9, 2) := by decide +kernel
theorem dX11_init_122 : decode cX11_init 122 = .ok (.newarray .int, 2) := by decide +kernel
theorem dX11_init_124 : decode cX11_init 124 = .ok (.putfield 62, 3) := by decide +kernel
theorem dX11_init_127 : decode cX11_init 127 = .ok (.aload_n 0, 1) := by decide +kernel
theorem dX11_init_128 : decode cX11_init 128 = .ok (.bipush 9, 2) := by decide +kernel
theorem dX11_init_130 : decode cX11_init 130 = .ok (.newarray .boolean, 2) := by decide +kernel
theorem dX11_init_132 : decode cX11_init 132 = .ok (.putfield 65, 3) := by decide +kernel
theorem dX11_init_135 : decode cX11_init 135 = .ok (.aload_n 0, 1) := by decide +kernel
theorem dX11_init_136 : decode cX11_init 136 = .ok (.bipush 64, 2) := by decide +kernel
theorem dX11_init_138 : decode cX11_init 138 = .ok (.newarray .int, 2) := by decide +kernel
theorem dX11_init_140 : decode cX11_init 140 = .ok (.putfield 68, 3) := by decide +kernel
theorem dX11_init_143 : decode cX11_init 143 = .ok (.aload_n 0, 1) := by decide +kernel
theorem dX11_init_144 : decode cX11_init 144 = .ok (.bipush 8, 2) := by decide +kernel
theorem dX11_init_146 : decode cX11_init 146 = .ok (.newarray .int, 2) := by decide +kernel
theorem dX11_init_148 : decode cX11_init 148 = .ok (.putfield 71, 3) := by decide +kernel
theorem dX11_init_151 : decode cX11_init 151 = .ok (.aload_n 0, 1) := by decide +kernel
theorem dX11_init_152 : decode cX11_init 152 = .ok (.bipush 8, 2) := by decide +kernel
theorem dX11_init_154 : decode cX11_init 154 = .ok (.newarray .int, 2) := by decide +kernel
theorem dX11_init_156 : decode cX11_init 156 = .ok (.putfield 74, 3) := by decide +kernel
theorem dX11_init_159 : decode cX11_init 159 = .ok (.aload_n 0, 1) := by decide +kernel
theorem dX11_init_160 : decode cX11_init 160 = .ok (.bipush 6, 2) := by decide +kernel
theorem dX11_init_162 : decode cX11_init 162 = .ok (.newarray .boolean, 2) := by decide +kernel
theorem dX11_init_164 : decode cX11_init 164 = .ok (.putfield 77, 3) := by decide +kernel
theorem dX11_init_167 : decode cX11_init 167 = .ok (.aload_n 0, 1) := by decide +kernel
theorem dX11_init_168 : decode cX11_init 168 = .ok (.iconst 2, 1) := by decide +kernel
theorem dX11_init_169 : decode cX11_init 169 = .ok (.newarray .int, 2) := by decide +kernel
theorem dX11_init_171 : decode cX11_init 171 = .ok (.putfield 80, 3) := by decide +kernel
theorem dX11_init_174 : decode cX11_init 174 = .ok (.aload_n 0, 1) := by decide +kernel
theorem dX11_init_175 : decode cX11_init 175 = .ok (.bipush 12, 2) := by decide +kernel
theorem dX11_init_177 : decode cX11_init 177 = .ok (.newarray .char, 2) := by decide +kernel
theorem dX11_init_179 : decode cX11_init 179 = .ok (.putfield 83, 3) := by decide +kernel
theorem dX11_init_182 : decode cX11_init 182 = .ok (.aload_n 0, 1) := by decide +kernel
theorem dX11_init_183 : decode cX11_init 183 = .ok (.bipush 12, 2) := by decide +kernel
theorem dX11_init_185 : decode cX11_init 185 = .ok (.newarray .int, 2) := by decide +kernel
theorem dX11_init_187 : decode cX11_init 187 = .ok (.putfield 86, 3) := by decide +kernel
theorem dX11_init_190 : decode cX11_init 190 = .ok (.aload_n 0, 1) := by decide +kernel
theorem dX11_init_191 : decode cX11_init 191 = .ok (.bipush 12, 2) := by decide +kernel
theorem dX11_init_193 : decode cX11_init 193 = .ok (.newarray .int, 2) := by decide +kernel
theorem dX11_init_195 : decode cX11_init 195 = .ok (.putfield 89, 3) := by decide +kernel
theorem dX11_init_198 : decode cX11_init 198 = .ok (.aload_n 0, 1) := by decide +kernel
theorem dX11_init_199 : decode cX11_init 199 = .ok (.bipush 12, 2) := by decide +kernel
theorem dX11_init_201 : decode cX11_init 201 = .ok (.newarray .int, 2) := by decide +kernel
theorem dX11_init_203 : decode cX11_init 203 = .ok (.putfield 92, 3) := by decide +kernel
theorem dX11_init_206 : decode cX11_init 206 = .ok (.aload_n 0, 1) := by decide +kernel
theorem dX11_init_207 : decode cX11_init 207 = .ok (.bipush 12, 2) := by decide +kernel
theorem dX11_init_209 : decode cX11_init 209 = .ok (.newarray .int, 2) := by decide +kernel
theorem dX11_init_211 : decode cX11_init 211 = .ok (.putfield 95, 3) := by decide +kernel
theorem dX11_init_214 : decode cX11_init 214 = .ok (.aload_n 0, 1) := by decide +kernel
theorem dX11_init_215 : decode cX11_init 215 = .ok (.bipush 12, 2) := by decide +kernel
theorem dX11_init_217 : decode cX11_init 217 = .ok (.newarray .int, 2) := by decide +kernel
theorem dX11_init_219 : decode cX11_init 219 = .ok (.putfield 98, 3) := by decide +kernel
theorem dX11_init_222 : decode cX11_init 222 = .ok (.aload_n 0, 1) := by decide +kernel
theorem dX11_init_223 : decode cX11_init 223 = .ok (.bipush 12, 2) := by decide +kernel
theorem dX11_init_225 : decode cX11_init 225 = .ok (.newarray .boolean, 2) := by decide +kernel
theorem dX11_init_227 : decode cX11_init 227 = .ok (.putfield 101, 3) := by decide +kernel
theorem dX11_init_230 : decode cX11_init 230 = .ok (.aload_n 0, 1) := by decide +kernel
theorem dX11_init_231 : decode cX11_init 231 = .ok (.bipush 12, 2) := by decide +kernel
theorem dX11_init_233 : decode cX11_init 233 = .ok (.newarray .int, 2) := by decide +kernel
theorem dX11_init_235 : decode cX11_init 235 = .ok (.putfield 104, 3) := by decide +kernel
theorem dX11_init_238 : decode cX11_init 238 = .ok (.aload_n 0, 1) := by decide +kernel
theorem dX11_init_239 : decode cX11_init 239 = .ok (.bipush 72, 2) := by decide +kernel
theorem dX11_init_241 : decode cX11_init 241 = .ok (.newarray .boolean, 2) := by decide +kernel
theorem dX11_init_243 : decode cX11_init 243 = .ok (.putfield 107, 3) := by decide +kernel
theorem dX11_init_246 : decode cX11_init 246 = .ok (.aload_n 0, 1) := by decide +kernel
theorem dX11_init_247 : decode cX11_init 247 = .ok (.new 110, 3) := by decide +kernel
theorem dX11_init_250 : decode cX11_init 250 = .ok (.dup, 1) := by decide +kernel
theorem dX11_init_251 : decode cX11_init 251 = .ok (.invokespecial 112, 3) := by decide +kernel
theorem dX11_init_254 : decode cX11_init 254 = .ok (.putfield 113, 3) := by decide +kernel
theorem dX11_init_257 : decode cX11_init 257 = .ok (.return_, 1) := by decide +kernel
theorem dX11_thrown_0 : decode cX11_thrown 0 = .ok (.aload_n 0, 1) := by decide +kernel
theorem dX11_thrown_1 : decode cX11_thrown 1 = .ok (.getfield 117, 3) := by decide +kernel
theorem dX11_thrown_4 : decode cX11_thrown 4 = .ok (.ireturn, 1) := by decide +kernel
theorem dX11_in_0 : decode cX11_in 0 = .ok (.lload_n 0, 1) := by decide +kernel
theorem dX11_in_1 : decode cX11_in 1 = .ok (.lload_n 2, 1) := by decide +kernel
theorem dX11_in_2 : decode cX11_in 2 = .ok (.lcmp, 1) := by decide +kernel
theorem dX11_in_3 : decode cX11_in 3 = .ok (.ifCond .lt 14, 3) := by decide +kernel
theorem dX11_in_6 : decode cX11_in 6 = .ok (.lload_n 0, 1) := by decide +kernel
theorem dX11_in_7 : decode cX11_in 7 = .ok (.lload 4, 2) := by decide +kernel
theorem dX11_in_9 : decode cX11_in 9 = .ok (.lcmp, 1) := by decide +kernel
theorem dX11_in_10 : decode cX11_in 10 = .ok (.ifCond .gt 7, 3) := by decide +kernel
theorem dX11_in_13 : decode cX11_in 13 = .ok (.iconst 1, 1) := by decide +kernel
theorem dX11_in_14 : decode cX11_in 14 = .ok (.goto 4, 3) := by decide +kernel
theorem dX11_in_17 : decode cX11_in 17 = .ok (.iconst 0, 1) := by decide +kernel
theorem dX11_in_18 : decode cX11_in 18 = .ok (.ireturn, 1) := by decide +kernel
theorem dX11_fails_0 : decode cX11_fails 0 = .ok (.iload_n 1, 1) := by decide +kernel
theorem dX11_fails_1 : decode cX11_fails 1 = .ok (.ifCond .eq 15, 3) := by decide +kernel
theorem dX11_fails_4 : decode cX11_fails 4 = .ok (.aload_n 0, 1) := by decide +kernel
theorem dX11_fails_5 : decode cX11_fails 5 = .ok (.getfield 117, 3) := by decide +kernel
theorem dX11_fails_8 : decode cX11_fails 8 = .ok (.ifCond .ne 8, 3) := by decide +kernel
theorem dX11_fails_11 : decode cX11_fails 11 = .ok (.aload_n 0, 1) := by decide +kernel
theorem dX11_fails_12 : decode cX11_fails 12 = .ok (.iload_n 2, 1) := by decide +kernel
theorem dX11_fails_13 : decode cX11_fails 13 = .ok (.putfield 117, 3) := by decide +kernel
theorem dX11_fails_16 : decode cX11_fails 16 = .ok (.aload_n 0, 1) := by decide +kernel
theorem dX11_fails_17 : decode cX11_fails 17 = .ok (.getfield 117, 3) := by decide +kernel
theorem dX11_fails_20 : decode cX11_fails 20 = .ok (.ifCond .eq 7, 3) := by decide +kernel
theorem dX11_fails_23 : decode cX11_fails 23 = .ok (.iconst 1, 1) := by decide +kernel
theorem dX11_fails_24 : decode cX11_fails 24 = .ok (.goto 4, 3) := by decide +kernel
theorem dX11_fails_27 : decode cX11_fails 27 = .ok (.iconst 0, 1) := by decide +kernel
theorem dX11_fails_28 : decode cX11_fails 28 = .ok (.ireturn, 1) := by decide +kernel
theorem dX11_isCounting_0 : decode cX11_isCounting 0 = .ok (.aload_n 0, 1) := by decide +kernel
theorem dX11_isCounting_1 : decode cX11_isCounting 1 = .ok (.getfield 7, 3) := by decide +kernel
theorem dX11_isCounting_4 : decode cX11_isCounting 4 = .ok (.bipush 99, 2) := by decide +kernel
theorem dX11_isCounting_6 : decode cX11_isCounting 6 = .ok (.if_icmp .eq 12, 3) := by decide +kernel
theorem dX11_isCounting_9 : decode cX11_isCounting 9 = .ok (.aload_n 0, 1) := by decide +kernel
theorem dX11_isCounting_10 : decode cX11_isCounting 10 = .ok (.getfield 7, 3) := by decide +kernel
theorem dX11_isCounting_13 : decode cX11_isCounting 13 = .ok (.bipush 104, 2) := by decide +kernel
theorem dX11_isCounting_15 : decode cX11_isCounting 15 = .ok (.if_icmp .ne 7, 3) := by decide +kernel
theorem dX11_isCounting_18 : decode cX11_isCounting 18 = .ok (.iconst 1, 1) := by decide +kernel
theorem dX11_isCounting_19 : decode cX11_isCounting 19 = .ok (.goto 4, 3) := by decide +kernel
theorem dX11_isCounting_22 : decode cX11_isCounting 22 = .ok (.iconst 0, 1) := by decide +kernel
theorem dX11_isCounting_23 : decode cX11_isCounting 23 = .ok (.ireturn, 1) := by decide +kernel
theorem dX11_hasLeft_0 : decode cX11_hasLeft 0 = .ok (.aload_n 0, 1) := by decide +kernel
theorem dX11_hasLeft_1 : decode cX11_hasLeft 1 = .ok (.getfield 7, 3) := by decide +kernel
theorem dX11_hasLeft_4 : decode cX11_hasLeft 4 = .ok (.bipush 102, 2) := by decide +kernel
theorem dX11_hasLeft_6 : decode cX11_hasLeft 6 = .ok (.if_icmp .eq 21, 3) := by decide +kernel
theorem dX11_hasLeft_9 : decode cX11_hasLeft 9 = .ok (.aload_n 0, 1) := by decide +kernel
theorem dX11_hasLeft_10 : decode cX11_hasLeft 10 = .ok (.getfield 7, 3) := by decide +kernel
theorem dX11_hasLeft_13 : decode cX11_hasLeft 13 = .ok (.bipush 120, 2) := by decide +kernel
theorem dX11_hasLeft_15 : decode cX11_hasLeft 15 = .ok (.if_icmp .eq 12, 3) := by decide +kernel
theorem dX11_hasLeft_18 : decode cX11_hasLeft 18 = .ok (.aload_n 0, 1) := by decide +kernel
theorem dX11_hasLeft_19 : decode cX11_hasLeft 19 = .ok (.getfield 7, 3) := by decide +kernel
theorem dX11_hasLeft_22 : decode cX11_hasLeft 22 = .ok (.bipush 111, 2) := by decide +kernel
theorem dX11_hasLeft_24 : decode cX11_hasLeft 24 = .ok (.if_icmp .ne 7, 3) := by decide +kernel
theorem dX11_hasLeft_27 : decode cX11_hasLeft 27 = .ok (.iconst 1, 1) := by decide +kernel
theorem dX11_hasLeft_28 : decode cX11_hasLeft 28 = .ok (.goto 4, 3) := by decide +kernel
theorem dX11_hasLeft_31 : decode cX11_hasLeft 31 = .ok (.iconst 0, 1) := by decide +kernel
theorem dX11_hasLeft_32 : decode cX11_hasLeft 32 = .ok (.ireturn, 1) := by decide +kernel
theorem dX11_note_0 : decode cX11_note 0 = .ok (.aload_n 0, 1) := by decide +kernel
theorem dX11_note_1 : decode cX11_note 1 = .ok (.getfield 113, 3) := by decide +kernel
theorem dX11_note_4 : decode cX11_note 4 = .ok (.aload_n 0, 1) := by decide +kernel
theorem dX11_note_5 : decode cX11_note 5 = .ok (.getfield 120, 3) := by decide +kernel
theorem dX11_note_8 : decode cX11_note 8 = .ok (.invokevirtual 123, 3) := by decide +kernel
theorem dX11_note_11 : decode cX11_note 11 = .ok (.iload_n 1, 1) := by decide +kernel
theorem dX11_note_12 : decode cX11_note 12 = .ok (.invokevirtual 127, 3) := by decide +kernel
theorem dX11_note_15 : decode cX11_note 15 = .ok (.bipush 59, 2) := by decide +kernel
theorem dX11_note_17 : decode cX11_note 17 = .ok (.invokevirtual 127, 3) := by decide +kernel
theorem dX11_note_20 : decode cX11_note 20 = .ok (.pop, 1) := by decide +kernel
theorem dX11_note_21 : decode cX11_note 21 = .ok (.return_, 1) := by decide +kernel
theorem dX11_noTank_0 : decode cX11_noTank 0 = .ok (.iload_n 0, 1) := by decide +kernel
theorem dX11_noTank_1 : decode cX11_noTank 1 = .ok (.i2l, 1) := by decide +kernel
theorem dX11_noTank_2 : decode cX11_noTank 2 = .ok (.lconst 0, 1) := by decide +kernel
theorem dX11_noTank_3 : decode cX11_noTank 3 = .ok (.ldc2_w 130, 3) := by decide +kernel
theorem dX11_noTank_6 : decode cX11_noTank 6 = .ok (.invokestatic 132, 3) := by decide +kernel
theorem dX11_noTank_9 : decode cX11_noTank 9 = .ok (.ifCond .ne 7, 3) := by decide +kernel
theorem dX11_noTank_12 : decode cX11_noTank 12 = .ok (.iconst 1, 1) := by decide +kernel
theorem dX11_noTank_13 : decode cX11_noTank 13 = .ok (.goto 4, 3) := by decide +kernel
theorem dX11_noTank_16 : decode cX11_noTank 16 = .ok (.iconst 0, 1) := by decide +kernel
theorem dX11_noTank_17 : decode cX11_noTank 17 = .ok (.ireturn, 1) := by decide +kernel
theorem dX11_setTank_0 : decode cX11_setTank 0 = .ok (.aload_n 0, 1) := by decide +kernel
theorem dX11_setTank_1 : decode cX11_setTank 1 = .ok (.iconst 0, 1) := by decide +kernel
theorem dX11_setTank_2 : decode cX11_setTank 2 = .ok (.putfield 117, 3) := by decide +kernel
theorem dX11_setTank_5 : decode cX11_setTank 5 = .ok (.aload_n 0, 1) := by decide +kernel
theorem dX11_setTank_6 : decode cX11_setTank 6 = .ok (.iload_n 1, 1) := by decide +kernel
theorem dX11_setTank_7 : decode cX11_setTank 7 = .ok (.invokestatic 136, 3) := by decide +kernel
theorem dX11_setTank_10 : decode cX11_setTank 10 = .ok (.ifCond .ne 40, 3) := by decide +kernel
theorem dX11_setTank_13 : decode cX11_setTank 13 = .ok (.iload_n 2, 1) := by decide +kernel
theorem dX11_setTank_14 : decode cX11_setTank 14 = .ok (.i2l, 1) := by decide +kernel
theorem dX11_setTank_15 : decode cX11_setTank 15 = .ok (.lconst 0, 1) := by decide +kernel
theorem dX11_setTank_16 : decode cX11_setTank 16 = .ok (.ldc2_w 140, 3) := by decide +kernel
theorem dX11_setTank_19 : decode cX11_setTank 19 = .ok (.invokestatic 132, 3) := by decide +kernel
theorem dX11_setTank_22 : decode cX11_setTank 22 = .ok (.ifCond .eq 28, 3) := by decide +kernel
theorem dX11_setTank_25 : decode cX11_setTank 25 = .ok (.iload_n 3, 1) := by decide +kernel
theorem dX11_setTank_26 : decode cX11_setTank 26 = .ok (.i2l, 1) := by decide +kernel
theorem dX11_setTank_27 : decode cX11_setTank 27 = .ok (.lconst 0, 1) := by decide +kernel
theorem dX11_setTank_28 : decode cX11_setTank 28 = .ok (.ldc2_w 142, 3) := by decide +kernel
theorem dX11_setTank_31 : decode cX11_setTank 31 = .ok (.invokestatic 132, 3) := by decide +kernel
theorem dX11_setTank_34 : decode cX11_setTank 34 = .ok (.ifCond .eq 16, 3) := by decide +kernel
theorem dX11_setTank_37 : decode cX11_setTank 37 = .ok (.iload 4, 2) := by decide +kernel
theorem dX11_setTank_39 : decode cX11_setTank 39 = .ok (.i2l, 1) := by decide +kernel
theorem dX11_setTank_40 : decode cX11_setTank 40 = .ok (.lconst 0, 1) := by decide +kernel
theorem dX11_setTank_41 : decode cX11_setTank 41 = .ok (.ldc2_w 144, 3) := by decide +kernel
theorem dX11_setTank_44 : decode cX11_setTank 44 = .ok (.invokestatic 132, 3) := by decide +kernel
theorem dX11_setTank_47 : decode cX11_setTank 47 = .ok (.ifCond .ne 7, 3) := by decide +kernel
theorem dX11_setTank_50 : decode cX11_setTank 50 = .ok (.iconst 1, 1) := by decide +kernel
theorem dX11_setTank_51 : decode cX11_setTank 51 = .ok (.goto 4, 3) := by decide +kernel
theorem dX11_setTank_54 : decode cX11_setTank 54 = .ok (.iconst 0, 1) := by decide +kernel
theorem dX11_setTank_55 : decode cX11_setTank 55 = .ok (.iconst 1, 1) := by decide +kernel
theorem dX11_setTank_56 : decode cX11_setTank 56 = .ok (.invokevirtual 146, 3) := by decide +kernel
theorem dX11_setTank_59 : decode cX11_setTank 59 = .ok (.ifCond .eq 5, 3) := by decide +kernel
theorem dX11_setTank_62 : decode cX11_setTank 62 = .ok (.iconst 0, 1) := by decide +kernel
theorem dX11_setTank_63 : decode cX11_setTank 63 = .ok (.ireturn, 1) := by decide +kernel
theorem dX11_setTank_64 : decode cX11_setTank 64 = .ok (.aload_n 0, 1) := by decide +kernel
theorem dX11_setTank_65 : decode cX11_setTank 65 = .ok (.getfield 20, 3) := by decide +kernel
theorem dX11_setTank_68 : decode cX11_setTank 68 = .ok (.iload_n 1, 1) := by decide +kernel
theorem dX11_setTank_69 : decode cX11_setTank 69 = .ok (.iload_n 2, 1) := by decide +kernel
theorem dX11_setTank_70 : decode cX11_setTank 70 = .ok (.iastore, 1) := by decide +kernel
theorem dX11_setTank_71 : decode cX11_setTank 71 = .ok (.aload_n 0, 1) := by decide +kernel
theorem dX11_setTank_72 : decode cX11_setTank 72 = .ok (.getfield 24, 3) := by decide +kernel
theorem dX11_setTank_75 : decode cX11_setTank 75 = .ok (.iload_n 1, 1) := by decide +kernel
theorem dX11_setTank_76 : decode cX11_setTank 76 = .ok (.iload_n 3, 1) := by decide +kernel
theorem dX11_setTank_77 : decode cX11_setTank 77 = .ok (.iastore, 1) := by decide +kernel
theorem dX11_setTank_78 : decode cX11_setTank 78 = .ok (.aload_n 0, 1) := by decide +kernel
theorem dX11_setTank_79 : decode cX11_setTank 79 = .ok (.getfield 27, 3) := by decide +kernel
theorem dX11_setTank_82 : decode cX11_setTank 82 = .ok (.iload_n 1, 1) := by decide +kernel
theorem dX11_setTank_83 : decode cX11_setTank 83 = .ok (.iload 4, 2) := by decide +kernel
theorem dX11_setTank_85 : decode cX11_setTank 85 = .ok (.iastore, 1) := by decide +kernel
theorem dX11_setTank_86 : decode cX11_setTank 86 = .ok (.aload_n 0, 1) := by decide +kernel
theorem dX11_setTank_87 : decode cX11_setTank 87 = .ok (.getfield 30, 3) := by decide +kernel
theorem dX11_setTank_90 : decode cX11_setTank 90 = .ok (.iload_n 1, 1) := by decide +kernel
theorem dX11_setTank_91 : decode cX11_setTank 91 = .ok (.aload_n 0, 1) := by decide +kernel
theorem dX11_setTank_92 : decode cX11_setTank 92 = .ok (.getfield 30, 3) := by decide +kernel
theorem dX11_setTank_95 : decode cX11_setTank 95 = .ok (.iload_n 1, 1) := by decide +kernel
theorem dX11_setTank_96 : decode cX11_setTank 96 = .ok (.iaload, 1) := by decide +kernel
theorem dX11_setTank_97 : decode cX11_setTank 97 = .ok (.iload_n 2, 1) := by decide +kernel
theorem dX11_setTank_98 : decode cX11_setTank 98 = .ok (.invokestatic 150, 3) := by decide +kernel
theorem dX11_setTank_101 : decode cX11_setTank 101 = .ok (.iastore, 1) := by decide +kernel
theorem dX11_setTank_102 : decode cX11_setTank 102 = .ok (.aload_n 0, 1) := by decide +kernel
theorem dX11_setTank_103 : decode cX11_setTank 103 = .ok (.getfield 30, 3) := by decide +kernel
theorem dX11_setTank_106 : decode cX11_setTank 106 = .ok (.iload_n 1, 1) := by decide +kernel
theorem dX11_setTank_107 : decode cX11_setTank 107 = .ok (.iaload, 1) := by decide +kernel
theorem dX11_setTank_108 : decode cX11_setTank 108 = .ok (.ireturn, 1) := by decide +kernel
theorem dX11_setValve_0 : decode cX11_setValve 0 = .ok (.aload_n 0, 1) := by decide +kernel
theorem dX11_setValve_1 : decode cX11_setValve 1 = .ok (.iconst 0, 1) := by decide +kernel
theorem dX11_setValve_2 : decode cX11_setValve 2 = .ok (.putfield 117, 3) := by decide +kernel
theorem dX11_setValve_5 : decode cX11_setValve 5 = .ok (.aload_n 0, 1) := by decide +kernel
theorem dX11_setValve_6 : decode cX11_setValve 6 = .ok (.iload_n 1, 1) := by decide +kernel
theorem dX11_setValve_7 : decode cX11_setValve 7 = .ok (.invokestatic 136, 3) := by decide +kernel
theorem dX11_setValve_10 : decode cX11_setValve 10 = .ok (.iconst 1, 1) := by decide +kernel
theorem dX11_setValve_11 : decode cX11_setValve 11 = .ok (.invokevirtual 146, 3) := by decide +kernel
theorem dX11_setValve_14 : decode cX11_setValve 14 = .ok (.ifCond .eq 5, 3) := by decide +kernel
theorem dX11_setValve_17 : decode cX11_setValve 17 = .ok (.iconst 0, 1) := by decide +kernel
theorem dX11_setValve_18 : decode cX11_setValve 18 = .ok (.ireturn, 1) := by decide +kernel
theorem dX11_setValve_19 : decode cX11_setValve 19 = .ok (.aload_n 0, 1) := by decide +kernel
theorem dX11_setValve_20 : decode cX11_setValve 20 = .ok (.getfield 33, 3) := by decide +kernel
theorem dX11_setValve_23 : decode cX11_setValve 23 = .ok (.iload_n 1, 1) := by decide +kernel
theorem dX11_setValve_24 : decode cX11_setValve 24 = .ok (.baload, 1) := by decide +kernel
theorem dX11_setValve_25 : decode cX11_setValve 25 = .ok (.istore_n 3, 1) := by decide +kernel
theorem dX11_setValve_26 : decode cX11_setValve 26 = .ok (.aload_n 0, 1) := by decide +kernel
theorem dX11_setValve_27 : decode cX11_setValve 27 = .ok (.getfield 33, 3) := by decide +kernel
theorem dX11_setValve_30 : decode cX11_setValve 30 = .ok (.iload_n 1, 1) := by decide +kernel
theorem dX11_setValve_31 : decode cX11_setValve 31 = .ok (.iload_n 2, 1) := by decide +kernel
theorem dX11_setValve_32 : decode cX11_setValve 32 = .ok (.bastore, 1) := by decide +kernel
theorem dX11_setValve_33 : decode cX11_setValve 33 = .ok (.iload_n 3, 1) := by decide +kernel
theorem dX11_setValve_34 : decode cX11_setValve 34 = .ok (.ireturn, 1) := by decide +kernel
theorem dX11_drain_0 : decode cX11_drain 0 = .ok (.aload_n 0, 1) := by decide +kernel
theorem dX11_drain_1 : decode cX11_drain 1 = .ok (.iconst 0, 1) := by decide +kernel
theorem dX11_drain_2 : decode cX11_drain 2 = .ok (.putfield 117, 3) := by decide +kernel
theorem dX11_drain_5 : decode cX11_drain 5 = .ok (.aload_n 0, 1) := by decide +kernel
theorem dX11_drain_6 : decode cX11_drain 6 = .ok (.iload_n 1, 1) := by decide +kernel
theorem dX11_drain_7 : decode cX11_drain 7 = .ok (.invokestatic 136, 3) := by decide +kernel
theorem dX11_drain_10 : decode cX11_drain 10 = .ok (.ifCond .ne 15, 3) := by decide +kernel
theorem dX11_drain_13 : decode cX11_drain 13 = .ok (.iload_n 2, 1) := by decide +kernel
theorem dX11_drain_14 : decode cX11_drain 14 = .ok (.i2l, 1) := by decide +kernel
theorem dX11_drain_15 : decode cX11_drain 15 = .ok (.lconst 1, 1) := by decide +kernel
theorem dX11_drain_16 : decode cX11_drain 16 = .ok (.ldc2_w 140, 3) := by decide +kernel
theorem dX11_drain_19 : decode cX11_drain 19 = .ok (.invokestatic 132, 3) := by decide +kernel
theorem dX11_drain_22 : decode cX11_drain 22 = .ok (.ifCond .ne 7, 3) := by decide +kernel
theorem dX11_drain_25 : decode cX11_drain 25 = .ok (.iconst 1, 1) := by decide +kernel
theorem dX11_drain_26 : decode cX11_drain 26 = .ok (.goto 4, 3) := by decide +kernel
theorem dX11_drain_29 : decode cX11_drain 29 = .ok (.iconst 0, 1) := by decide +kernel
theorem dX11_drain_30 : decode cX11_drain 30 = .ok (.iconst 1, 1) := by decide +kernel
theorem dX11_drain_31 : decode cX11_drain 31 = .ok (.invokevirtual 146, 3) := by decide +kernel
theorem dX11_drain_34 : decode cX11_drain 34 = .ok (.ifCond .eq 5, 3) := by decide +kernel
theorem dX11_drain_37 : decode cX11_drain 37 = .ok (.iconst 0, 1) := by decide +kernel
theorem dX11_drain_38 : decode cX11_drain 38 = .ok (.ireturn, 1) := by decide +kernel
theorem dX11_drain_39 : decode cX11_drain 39 = .ok (.iload_n 2, 1) := by decide +kernel
theorem dX11_drain_40 : decode cX11_drain 40 = .ok (.aload_n 0, 1) := by decide +kernel
theorem dX11_drain_41 : decode cX11_drain 41 = .ok (.getfield 30, 3) := by decide +kernel
theorem dX11_drain_44 : decode cX11_drain 44 = .ok (.iload_n 1, 1) := by decide +kernel
theorem dX11_drain_45 : decode cX11_drain 45 = .ok (.iaload, 1) := by decide +kernel
theorem dX11_drain_46 : decode cX11_drain 46 = .ok (.invokestatic 150, 3) := by decide +kernel
theorem dX11_drain_49 : decode cX11_drain 49 = .ok (.istore_n 3, 1) := by decide +kernel
theorem dX11_drain_50 : decode cX11_drain 50 = .ok (.aload_n 0, 1) := by decide +kernel
theorem dX11_drain_51 : decode cX11_drain 51 = .ok (.getfield 30, 3) := by decide +kernel
theorem dX11_drain_54 : decode cX11_drain 54 = .ok (.iload_n 1, 1) := by decide +kernel
theorem dX11_drain_55 : decode cX11_drain 55 = .ok (.dup2, 1) := by decide +kernel
theorem dX11_drain_56 : decode cX11_drain 56 = .ok (.iaload, 1) := by decide +kernel
theorem dX11_drain_57 : decode cX11_drain 57 = .ok (.iload_n 3, 1) := by decide +kernel
theorem dX11_drain_58 : decode cX11_drain 58 = .ok (.isub, 1) := by decide +kernel
theorem dX11_drain_59 : decode cX11_drain 59 = .ok (.iastore, 1) := by decide +kernel
theorem dX11_drain_60 : decode cX11_drain 60 = .ok (.iload_n 3, 1) := by decide +kernel
theorem dX11_drain_61 : decode cX11_drain 61 = .ok (.ireturn, 1) := by decide +kernel
theorem dX11_inTank_0 : decode cX11_inTank 0 = .ok (.aload_n 0, 1) := by decide +kernel
theorem dX11_inTank_1 : decode cX11_inTank 1 = .ok (.iconst 0, 1) := by decide +kernel
theorem dX11_inTank_2 : decode cX11_inTank 2 = .ok (.putfield 117, 3) := by decide +kernel
theorem dX11_inTank_5 : decode cX11_inTank 5 = .ok (.aload_n 0, 1) := by decide +kernel
theorem dX11_inTank_6 : decode cX11_inTank 6 = .ok (.iload_n 1, 1) := by decide +kernel
theorem dX11_inTank_7 : decode cX11_inTank 7 = .ok (.invokestatic 136, 3) := by decide +kernel
theorem dX11_inTank_10 : decode cX11_inTank 10 = .ok (.iconst 1, 1) := by decide +kernel
theorem dX11_inTank_11 : decode cX11_inTank 11 = .ok (.invokevirtual 146, 3) := by decide +kernel
theorem dX11_inTank_14 : decode cX11_inTank 14 = .ok (.ifCond .eq 7, 3) := by decide +kernel
theorem dX11_inTank_17 : decode cX11_inTank 17 = .ok (.iconst 0, 1) := by decide +kernel
theorem dX11_inTank_18 : decode cX11_inTank 18 = .ok (.goto 9, 3) := by decide +kernel
theorem dX11_inTank_21 : decode cX11_inTank 21 = .ok (.aload_n 0, 1) := by decide +kernel
theorem dX11_inTank_22 : decode cX11_inTank 22 = .ok (.getfield 30, 3) := by decide +kernel
theorem dX11_inTank_25 : decode cX11_inTank 25 = .ok (.iload_n 1, 1) := by decide +kernel
theorem dX11_inTank_26 : decode cX11_inTank 26 = .ok (.iaload, 1) := by decide +kernel
theorem dX11_inTank_27 : decode cX11_inTank 27 = .ok (.ireturn, 1) := by decide +kernel
theorem dX11_addStep_0 : decode cX11_addStep 0 = .ok (.aload_n 0, 1) := by decide +kernel
theorem dX11_addStep_1 : decode cX11_addStep 1 = .ok (.iconst 0, 1) := by decide +kernel
theorem dX11_addStep_2 : decode cX11_addStep 2 = .ok (.putfield 117, 3) := by decide +kernel
theorem dX11_addStep_5 : decode cX11_addStep 5 = .ok (.aload_n 0, 1) := by decide +kernel
theorem dX11_addStep_6 : decode cX11_addStep 6 = .ok (.iload_n 1, 1) := by decide +kernel
theorem dX11_addStep_7 : decode cX11_addStep 7 = .ok (.i2l, 1) := by decide +kernel
theorem dX11_addStep_8 : decode cX11_addStep 8 = .ok (.ldc2_w 156, 3) := by decide +kernel
theorem dX11_addStep_11 : decode cX11_addStep 11 = .ok (.ldc2_w 158, 3) := by decide +kernel
theorem dX11_addStep_14 : decode cX11_addStep 14 = .ok (.invokestatic 132, 3) := by decide +kernel
theorem dX11_addStep_17 : decode cX11_addStep 17 = .ok (.ifCond .eq 15, 3) := by decide +kernel
theorem dX11_addStep_20 : decode cX11_addStep 20 = .ok (.iload_n 2, 1) := by decide +kernel
theorem dX11_addStep_21 : decode cX11_addStep 21 = .ok (.i2l, 1) := by decide +kernel
theorem dX11_addStep_22 : decode cX11_addStep 22 = .ok (.lconst 1, 1) := by decide +kernel
theorem dX11_addStep_23 : decode cX11_addStep 23 = .ok (.ldc2_w 160, 3) := by decide +kernel
theorem dX11_addStep_26 : decode cX11_addStep 26 = .ok (.invokestatic 132, 3) := by decide +kernel
theorem dX11_addStep_29 : decode cX11_addStep 29 = .ok (.ifCond .ne 7, 3) := by decide +kernel
theorem dX11_addStep_32 : decode cX11_addStep 32 = .ok (.iconst 1, 1) := by decide +kernel
theorem dX11_addStep_33 : decode cX11_addStep 33 = .ok (.goto 4, 3) := by decide +kernel
theorem dX11_addStep_36 : decode cX11_addStep 36 = .ok (.iconst 0, 1) := by decide +kernel
theorem dX11_addStep_37 : decode cX11_addStep 37 = .ok (.iconst 1, 1) := by decide +kernel
theorem dX11_addStep_38 : decode cX11_addStep 38 = .ok (.invokevirtual 146, 3) := by decide +kernel
theorem dX11_addStep_41 : decode cX11_addStep 41 = .ok (.ifCond .ne 39, 3) := by decide +kernel
theorem dX11_addStep_44 : decode cX11_addStep 44 = .ok (.aload_n 0, 1) := by decide +kernel
theorem dX11_addStep_45 : decode cX11_addStep 45 = .ok (.aload_n 0, 1) := by decide +kernel
theorem dX11_addStep_46 : decode cX11_addStep 46 = .ok (.getfield 162, 3) := by decide +kernel
theorem dX11_addStep_49 : decode cX11_addStep 49 = .ok (.bipush 16, 2) := by decide +kernel
theorem dX11_addStep_51 : decode cX11_addStep 51 = .ok (.if_icmp .eq 17, 3) := by decide +kernel
theorem dX11_addStep_54 : decode cX11_addStep 54 = .ok (.aload_n 0, 1) := by decide +kernel
theorem dX11_addStep_55 : decode cX11_addStep 55 = .ok (.invokevirtual 165, 3) := by decide +kernel
theorem dX11_addStep_58 : decode cX11_addStep 58 = .ok (.ifCond .ne 10, 3) := by decide +kernel
theorem dX11_addStep_61 : decode cX11_addStep 61 = .ok (.aload_n 0, 1) := by decide +kernel
theorem dX11_addStep_62 : decode cX11_addStep 62 = .ok (.invokevirtual 169, 3) := by decide +kernel
theorem dX11_addStep_65 : decode cX11_addStep 65 = .ok (.ifCond .eq 7, 3) := by decide +kernel
theorem dX11_addStep_68 : decode cX11_addStep 68 = .ok (.iconst 1, 1) := by decide +kernel
theorem dX11_addStep_69 : decode cX11_addStep 69 = .ok (.goto 4, 3) := by decide +kernel
theorem dX11_addStep_72 : decode cX11_addStep 72 = .ok (.iconst 0, 1) := by decide +kernel
theorem dX11_addStep_73 : decode cX11_addStep 73 = .ok (.iconst 2, 1) := by decide +kernel
theorem dX11_addStep_74 : decode cX11_addStep 74 = .ok (.invokevirtual 146, 3) := by decide +kernel
theorem dX11_addStep_77 : decode cX11_addStep 77 = .ok (.ifCond .eq 5, 3) := by decide +kernel
theorem dX11_addStep_80 : decode cX11_addStep 80 = .ok (.iconst 0, 1) := by decide +kernel
theorem dX11_addStep_81 : decode cX11_addStep 81 = .ok (.ireturn, 1) := by decide +kernel
theorem dX11_addStep_82 : decode cX11_addStep 82 = .ok (.aload_n 0, 1) := by decide +kernel
theorem dX11_addStep_83 : decode cX11_addStep 83 = .ok (.getfield 37, 3) := by decide +kernel
theorem dX11_addStep_86 : decode cX11_addStep 86 = .ok (.aload_n 0, 1) := by decide +kernel
theorem dX11_addStep_87 : decode cX11_addStep 87 = .ok (.getfield 162, 3) := by decide +kernel
theorem dX11_addStep_90 : decode cX11_addStep 90 = .ok (.iload_n 1, 1) := by decide +kernel
theorem dX11_addStep_91 : decode cX11_addStep 91 = .ok (.iastore, 1) := by decide +kernel
theorem dX11_addStep_92 : decode cX11_addStep 92 = .ok (.aload_n 0, 1) := by decide +kernel
theorem dX11_addStep_93 : decode cX11_addStep 93 = .ok (.getfield 40, 3) := by decide +kernel
theorem dX11_addStep_96 : decode cX11_addStep 96 = .ok (.aload_n 0, 1) := by decide +kernel
theorem dX11_addStep_97 : decode cX11_addStep 97 = .ok (.getfield 162, 3) := by decide +kernel
theorem dX11_addStep_100 : decode cX11_addStep 100 = .ok (.iload_n 2, 1) := by decide +kernel
theorem dX11_addStep_101 : decode cX11_addStep 101 = .ok (.iastore, 1) := by decide +kernel
theorem dX11_addStep_102 : decode cX11_addStep 102 = .ok (.aload_n 0, 1) := by decide +kernel
theorem dX11_addStep_103 : decode cX11_addStep 103 = .ok (.getfield 46, 3) := by decide +kernel
theorem dX11_addStep_106 : decode cX11_addStep 106 = .ok (.aload_n 0, 1) := by decide +kernel
theorem dX11_addStep_107 : decode cX11_addStep 107 = .ok (.getfield 162, 3) := by decide +kernel
theorem dX11_addStep_110 : decode cX11_addStep 110 = .ok (.bipush 45, 2) := by decide +kernel
theorem dX11_addStep_112 : decode cX11_addStep 112 = .ok (.castore, 1) := by decide +kernel
theorem dX11_addStep_113 : decode cX11_addStep 113 = .ok (.aload_n 0, 1) := by decide +kernel
theorem dX11_addStep_114 : decode cX11_addStep 114 = .ok (.dup, 1) := by decide +kernel
theorem dX11_addStep_115 : decode cX11_addStep 115 = .ok (.getfield 162, 3) := by decide +kernel
theorem dX11_addStep_118 : decode cX11_addStep 118 = .ok (.iconst 1, 1) := by decide +kernel
theorem dX11_addStep_119 : decode cX11_addStep 119 = .ok (.iadd, 1) := by decide +kernel
theorem dX11_addStep_120 : decode cX11_addStep 120 = .ok (.putfield 162, 3) := by decide +kernel
theorem dX11_addStep_123 : decode cX11_addStep 123 = .ok (.aload_n 0, 1) := by decide +kernel
theorem dX11_addStep_124 : decode cX11_addStep 124 = .ok (.getfield 162, 3) := by decide +kernel
theorem dX11_addStep_127 : decode cX11_addStep 127 = .ok (.iconst 1, 1) := by decide +kernel
theorem dX11_addStep_128 : decode cX11_addStep 128 = .ok (.isub, 1) := by decide +kernel
theorem dX11_addStep_129 : decode cX11_addStep 129 = .ok (.ireturn, 1) := by decide +kernel
theorem dX11_noStep_0 : decode cX11_noStep 0 = .ok (.iload_n 1, 1) := by decide +kernel
theorem dX11_noStep_1 : decode cX11_noStep 1 = .ok (.i2l, 1) := by decide +kernel
theorem dX11_noStep_2 : decode cX11_noStep 2 = .ok (.lconst 0, 1) := by decide +kernel
theorem dX11_noStep_3 : decode cX11_noStep 3 = .ok (.aload_n 0, 1) := by decide +kernel
theorem dX11_noStep_4 : decode cX11_noStep 4 = .ok (.getfield 162, 3) := by decide +kernel
theorem dX11_noStep_7 : decode cX11_noStep 7 = .ok (.iconst 1, 1) := by decide +kernel
theorem dX11_noStep_8 : decode cX11_noStep 8 = .ok (.isub, 1) := by decide +kernel
theorem dX11_noStep_9 : decode cX11_noStep 9 = .ok (.i2l, 1) := by decide +kernel
theorem dX11_noStep_10 : decode cX11_noStep 10 = .ok (.invokestatic 132, 3) := by decide +kernel
theorem dX11_noStep_13 : decode cX11_noStep 13 = .ok (.ifCond .ne 7, 3) := by decide +kernel
theorem dX11_noStep_16 : decode cX11_noStep 16 = .ok (.iconst 1, 1) := by decide +kernel
theorem dX11_noStep_17 : decode cX11_noStep 17 = .ok (.goto 4, 3) := by decide +kernel
theorem dX11_noStep_20 : decode cX11_noStep 20 = .ok (.iconst 0, 1) := by decide +kernel
theorem dX11_noStep_21 : decode cX11_noStep 21 = .ok (.ireturn, 1) := by decide +kernel
theorem dX11_setAfter_0 : decode cX11_setAfter 0 = .ok (.aload_n 0, 1) := by decide +kernel
theorem dX11_setAfter_1 : decode cX11_setAfter 1 = .ok (.iconst 0, 1) := by decide +kernel
theorem dX11_setAfter_2 : decode cX11_setAfter 2 = .ok (.putfield 117, 3) := by decide +kernel
theorem dX11_setAfter_5 : decode cX11_setAfter 5 = .ok (.aload_n 0, 1) := by decide +kernel
theorem dX11_setAfter_6 : decode cX11_setAfter 6 = .ok (.aload_n 0, 1) := by decide +kernel
theorem dX11_setAfter_7 : decode cX11_setAfter 7 = .ok (.iload_n 1, 1) := by decide +kernel
theorem dX11_setAfter_8 : decode cX11_setAfter 8 = .ok (.invokevirtual 172, 3) := by decide +kernel
theorem dX11_setAfter_11 : decode cX11_setAfter 11 = .ok (.ifCond .ne 11, 3) := by decide +kernel
theorem dX11_setAfter_14 : decode cX11_setAfter 14 = .ok (.aload_n 0, 1) := by decide +kernel
theorem dX11_setAfter_15 : decode cX11_setAfter 15 = .ok (.iload_n 2, 1) := by decide +kernel
theorem dX11_setAfter_16 : decode cX11_setAfter 16 = .ok (.invokevirtual 172, 3) := by decide +kernel
theorem dX11_setAfter_19 : decode cX11_setAfter 19 = .ok (.ifCond .eq 7, 3) := by decide +kernel
theorem dX11_setAfter_22 : decode cX11_setAfter 22 = .ok (.iconst 1, 1) := by decide +kernel
theorem dX11_setAfter_23 : decode cX11_setAfter 23 = .ok (.goto 4, 3) := by decide +kernel
theorem dX11_setAfter_26 : decode cX11_setAfter 26 = .ok (.iconst 0, 1) := by decide +kernel
theorem dX11_setAfter_27 : decode cX11_setAfter 27 = .ok (.iconst 1, 1) := by decide +kernel
theorem dX11_setAfter_28 : decode cX11_setAfter 28 = .ok (.invokevirtual 146, 3) := by decide +kernel
theorem dX11_setAfter_31 : decode cX11_setAfter 31 = .ok (.ifCond .ne 48, 3) := by decide +kernel
theorem dX11_setAfter_34 : decode cX11_setAfter 34 = .ok (.aload_n 0, 1) := by decide +kernel
theorem dX11_setAfter_35 : decode cX11_setAfter 35 = .ok (.iload_n 2, 1) := by decide +kernel
theorem dX11_setAfter_36 : decode cX11_setAfter 36 = .ok (.iload_n 1, 1) := by decide +kernel
theorem dX11_setAfter_37 : decode cX11_setAfter 37 = .ok (.if_icmp .lt 7, 3) := by decide +kernel
theorem dX11_setAfter_40 : decode cX11_setAfter 40 = .ok (.iconst 1, 1) := by decide +kernel
theorem dX11_setAfter_41 : decode cX11_setAfter 41 = .ok (.goto 4, 3) := by decide +kernel
theorem dX11_setAfter_44 : decode cX11_setAfter 44 = .ok (.iconst 0, 1) := by decide +kernel
theorem dX11_setAfter_45 : decode cX11_setAfter 45 = .ok (.iconst 2, 1) := by decide +kernel
theorem dX11_setAfter_46 : decode cX11_setAfter 46 = .ok (.invokevirtual 146, 3) := by decide +kernel
theorem dX11_setAfter_49 : decode cX11_setAfter 49 = .ok (.ifCond .ne 30, 3) := by decide +kernel
theorem dX11_setAfter_52 : decode cX11_setAfter 52 = .ok (.aload_n 0, 1) := by decide +kernel
theorem dX11_setAfter_53 : decode cX11_setAfter 53 = .ok (.aload_n 0, 1) := by decide +kernel
theorem dX11_setAfter_54 : decode cX11_setAfter 54 = .ok (.invokevirtual 165, 3) := by decide +kernel
theorem dX11_setAfter_57 : decode cX11_setAfter 57 = .ok (.ifCond .ne 10, 3) := by decide +kernel
theorem dX11_setAfter_60 : decode cX11_setAfter 60 = .ok (.aload_n 0, 1) := by decide +kernel
theorem dX11_setAfter_61 : decode cX11_setAfter 61 = .ok (.invokevirtual 169, 3) := by decide +kernel
theorem dX11_setAfter_64 : decode cX11_setAfter 64 = .ok (.ifCond .eq 7, 3) := by decide +kernel
theorem dX11_setAfter_67 : decode cX11_setAfter 67 = .ok (.iconst 1, 1) := by decide +kernel
theorem dX11_setAfter_68 : decode cX11_setAfter 68 = .ok (.goto 4, 3) := by decide +kernel
theorem dX11_setAfter_71 : decode cX11_setAfter 71 = .ok (.iconst 0, 1) := by decide +kernel
theorem dX11_setAfter_72 : decode cX11_setAfter 72 = .ok (.iconst 3, 1) := by decide +kernel
theorem dX11_setAfter_73 : decode cX11_setAfter 73 = .ok (.invokevirtual 146, 3) := by decide +kernel
theorem dX11_setAfter_76 : decode cX11_setAfter 76 = .ok (.ifCond .eq 5, 3) := by decide +kernel
theorem dX11_setAfter_79 : decode cX11_setAfter 79 = .ok (.iconst 0, 1) := by decide +kernel
theorem dX11_setAfter_80 : decode cX11_setAfter 80 = .ok (.ireturn, 1) := by decide +kernel
theorem dX11_setAfter_81 : decode cX11_setAfter 81 = .ok (.aload_n 0, 1) := by decide +kernel
theorem dX11_setAfter_82 : decode cX11_setAfter 82 = .ok (.getfield 43, 3) := by decide +kernel
theorem dX11_setAfter_85 : decode cX11_setAfter 85 = .ok (.iload_n 1, 1) := by decide +kernel
theorem dX11_setAfter_86 : decode cX11_setAfter 86 = .ok (.dup2, 1) := by decide +kernel
theorem dX11_setAfter_87 : decode cX11_setAfter 87 = .ok (.iaload, 1) := by decide +kernel
theorem dX11_setAfter_88 : decode cX11_setAfter 88 = .ok (.iconst 1, 1) := by decide +kernel
theorem dX11_setAfter_89 : decode cX11_setAfter 89 = .ok (.iload_n 2, 1) := by decide +kernel
theorem dX11_setAfter_90 : decode cX11_setAfter 90 = .ok (.ishl, 1) := by decide +kernel
theorem dX11_setAfter_91 : decode cX11_setAfter 91 = .ok (.ior, 1) := by decide +kernel
theorem dX11_setAfter_92 : decode cX11_setAfter 92 = .ok (.iastore, 1) := by decide +kernel
theorem dX11_setAfter_93 : decode cX11_setAfter 93 = .ok (.aload_n 0, 1) := by decide +kernel
theorem dX11_setAfter_94 : decode cX11_setAfter 94 = .ok (.getfield 43, 3) := by decide +kernel
theorem dX11_setAfter_97 : decode cX11_setAfter 97 = .ok (.iload_n 1, 1) := by decide +kernel
theorem dX11_setAfter_98 : decode cX11_setAfter 98 = .ok (.iaload, 1) := by decide +kernel
theorem dX11_setAfter_99 : decode cX11_setAfter 99 = .ok (.invokestatic 175, 3) := by decide +kernel
theorem dX11_setAfter_102 : decode cX11_setAfter 102 = .ok (.ireturn, 1) := by decide +kernel
theorem dX11_stepState_0 : decode cX11_stepState 0 = .ok (.aload_n 0, 1) := by decide +kernel
theorem dX11_stepState_1 : decode cX11_stepState 1 = .ok (.iconst 0, 1) := by decide +kernel
theorem dX11_stepState_2 : decode cX11_stepState 2 = .ok (.putfield 117, 3) := by decide +kernel
theorem dX11_stepState_5 : decode cX11_stepState 5 = .ok (.aload_n 0, 1) := by decide +kernel
theorem dX11_stepState_6 : decode cX11_stepState 6 = .ok (.aload_n 0, 1) := by decide +kernel
theorem dX11_stepState_7 : decode cX11_stepState 7 = .ok (.iload_n 1, 1) := by decide +kernel
theorem dX11_stepState_8 : decode cX11_stepState 8 = .ok (.invokevirtual 172, 3) := by decide +kernel
theorem dX11_stepState_11 : decode cX11_stepState 11 = .ok (.iconst 1, 1) := by decide +kernel
theorem dX11_stepState_12 : decode cX11_stepState 12 = .ok (.invokevirtual 146, 3) := by decide +kernel
theorem dX11_stepState_15 : decode cX11_stepState 15 = .ok (.ifCond .eq 7, 3) := by decide +kernel
theorem dX11_stepState_18 : decode cX11_stepState 18 = .ok (.iconst 0, 1) := by decide +kernel
theorem dX11_stepState_19 : decode cX11_stepState 19 = .ok (.goto 9, 3) := by decide +kernel
theorem dX11_stepState_22 : decode cX11_stepState 22 = .ok (.aload_n 0, 1) := by decide +kernel
theorem dX11_stepState_23 : decode cX11_stepState 23 = .ok (.getfield 46, 3) := by decide +kernel
theorem dX11_stepState_26 : decode cX11_stepState 26 = .ok (.iload_n 1, 1) := by decide +kernel
theorem dX11_stepState_27 : decode cX11_stepState 27 = .ok (.caload, 1) := by decide +kernel
theorem dX11_stepState_28 : decode cX11_stepState 28 = .ok (.ireturn, 1) := by decide +kernel
theorem dX11_markAt_0 : decode cX11_markAt 0 = .ok (.iconst (-1), 1) := by decide +kernel
theorem dX11_markAt_1 : decode cX11_markAt 1 = .ok (.istore_n 2, 1) := by decide +kernel
theorem dX11_markAt_2 : decode cX11_markAt 2 = .ok (.iconst 0, 1) := by decide +kernel
theorem dX11_markAt_3 : decode cX11_markAt 3 = .ok (.istore_n 3, 1) := by decide +kernel
theorem dX11_markAt_4 : decode cX11_markAt 4 = .ok (.iload_n 3, 1) := by decide +kernel
theorem dX11_markAt_5 : decode cX11_markAt 5 = .ok (.aload_n 0, 1) := by decide +kernel
theorem dX11_markAt_6 : decode cX11_markAt 6 = .ok (.getfield 181, 3) := by decide +kernel
theorem dX11_markAt_9 : decode cX11_markAt 9 = .ok (.if_icmp .ge 25, 3) := by decide +kernel
theorem dX11_markAt_12 : decode cX11_markAt 12 = .ok (.aload_n 0, 1) := by decide +kernel
theorem dX11_markAt_13 : decode cX11_markAt 13 = .ok (.getfield 53, 3) := by decide +kernel
theorem dX11_markAt_16 : decode cX11_markAt 16 = .ok (.iload_n 3, 1) := by decide +kernel
theorem dX11_markAt_17 : decode cX11_markAt 17 = .ok (.iaload, 1) := by decide +kernel
theorem dX11_markAt_18 : decode cX11_markAt 18 = .ok (.iload_n 1, 1) := by decide +kernel
theorem dX11_markAt_19 : decode cX11_markAt 19 = .ok (.if_icmp .ne 7, 3) := by decide +kernel
theorem dX11_markAt_22 : decode cX11_markAt 22 = .ok (.iload_n 3, 1) := by decide +kernel
theorem dX11_markAt_23 : decode cX11_markAt 23 = .ok (.goto 4, 3) := by decide +kernel
theorem dX11_markAt_26 : decode cX11_markAt 26 = .ok (.iload_n 2, 1) := by decide +kernel
theorem dX11_markAt_27 : decode cX11_markAt 27 = .ok (.istore_n 2, 1) := by decide +kernel
theorem dX11_markAt_28 : decode cX11_markAt 28 = .ok (.iinc 3 1, 3) := by decide +kernel
theorem dX11_markAt_31 : decode cX11_markAt 31 = .ok (.goto (-27), 3) := by decide +kernel
theorem dX11_markAt_34 : decode cX11_markAt 34 = .ok (.iload_n 2, 1) := by decide +kernel
theorem dX11_markAt_35 : decode cX11_markAt 35 = .ok (.ireturn, 1) := by decide +kernel
theorem dX11_addMark_0 : decode cX11_addMark 0 = .ok (.aload_n 0, 1) := by decide +kernel
theorem dX11_addMark_1 : decode cX11_addMark 1 = .ok (.iconst 0, 1) := by decide +kernel
theorem dX11_addMark_2 : decode cX11_addMark 2 = .ok (.putfield 117, 3) := by decide +kernel
theorem dX11_addMark_5 : decode cX11_addMark 5 = .ok (.aload_n 0, 1) := by decide +kernel
theorem dX11_addMark_6 : decode cX11_addMark 6 = .ok (.iload_n 1, 1) := by decide +kernel
theorem dX11_addMark_7 : decode cX11_addMark 7 = .ok (.i2l, 1) := by decide +kernel
theorem dX11_addMark_8 : decode cX11_addMark 8 = .ok (.ldc2_w 156, 3) := by decide +kernel
theorem dX11_addMark_11 : decode cX11_addMark 11 = .ok (.ldc2_w 158, 3) := by decide +kernel
theorem dX11_addMark_14 : decode cX11_addMark 14 = .ok (.invokestatic 132, 3) := by decide +kernel
theorem dX11_addMark_17 : decode cX11_addMark 17 = .ok (.ifCond .eq 24, 3) := by decide +kernel
theorem dX11_addMark_20 : decode cX11_addMark 20 = .ok (.iload_n 2, 1) := by decide +kernel
theorem dX11_addMark_21 : decode cX11_addMark 21 = .ok (.i2l, 1) := by decide +kernel
theorem dX11_addMark_22 : decode cX11_addMark 22 = .ok (.lconst 0, 1) := by decide +kernel
theorem dX11_addMark_23 : decode cX11_addMark 23 = .ok (.ldc2_w 160, 3) := by decide +kernel
theorem dX11_addMark_26 : decode cX11_addMark 26 = .ok (.invokestatic 132, 3) := by decide +kernel
theorem dX11_addMark_29 : decode cX11_addMark 29 = .ok (.ifCond .eq 12, 3) := by decide +kernel
theorem dX11_addMark_32 : decode cX11_addMark 32 = .ok (.aload_n 0, 1) := by decide +kernel
theorem dX11_addMark_33 : decode cX11_addMark 33 = .ok (.iload_n 1, 1) := by decide +kernel
theorem dX11_addMark_34 : decode cX11_addMark 34 = .ok (.invokevirtual 184, 3) := by decide +kernel
theorem dX11_addMark_37 : decode cX11_addMark 37 = .ok (.iconst (-1), 1) := by decide +kernel
theorem dX11_addMark_38 : decode cX11_addMark 38 = .ok (.if_icmp .eq 7, 3) := by decide +kernel
theorem dX11_addMark_41 : decode cX11_addMark 41 = .ok (.iconst 1, 1) := by decide +kernel
theorem dX11_addMark_42 : decode cX11_addMark 42 = .ok (.goto 4, 3) := by decide +kernel
theorem dX11_addMark_45 : decode cX11_addMark 45 = .ok (.iconst 0, 1) := by decide +kernel
theorem dX11_addMark_46 : decode cX11_addMark 46 = .ok (.iconst 1, 1) := by decide +kernel
theorem dX11_addMark_47 : decode cX11_addMark 47 = .ok (.invokevirtual 146, 3) := by decide +kernel
theorem dX11_addMark_50 : decode cX11_addMark 50 = .ok (.ifCond .ne 34, 3) := by decide +kernel
theorem dX11_addMark_53 : decode cX11_addMark 53 = .ok (.aload_n 0, 1) := by decide +kernel
theorem dX11_addMark_54 : decode cX11_addMark 54 = .ok (.iload_n 3, 1) := by decide +kernel
theorem dX11_addMark_55 : decode cX11_addMark 55 = .ok (.i2l, 1) := by decide +kernel
theorem dX11_addMark_56 : decode cX11_addMark 56 = .ok (.lconst 0, 1) := by decide +kernel
theorem dX11_addMark_57 : decode cX11_addMark 57 = .ok (.iconst 1, 1) := by decide +kernel
theorem dX11_addMark_58 : decode cX11_addMark 58 = .ok (.aload_n 0, 1) := by decide +kernel
theorem dX11_addMark_59 : decode cX11_addMark 59 = .ok (.getfield 162, 3) := by decide +kernel
theorem dX11_addMark_62 : decode cX11_addMark 62 = .ok (.ishl, 1) := by decide +kernel
theorem dX11_addMark_63 : decode cX11_addMark 63 = .ok (.iconst 1, 1) := by decide +kernel
theorem dX11_addMark_64 : decode cX11_addMark 64 = .ok (.isub, 1) := by decide +kernel
theorem dX11_addMark_65 : decode cX11_addMark 65 = .ok (.i2l, 1) := by decide +kernel
theorem dX11_addMark_66 : decode cX11_addMark 66 = .ok (.invokestatic 132, 3) := by decide +kernel
theorem dX11_addMark_69 : decode cX11_addMark 69 = .ok (.ifCond .ne 7, 3) := by decide +kernel
theorem dX11_addMark_72 : decode cX11_addMark 72 = .ok (.iconst 1, 1) := by decide +kernel
theorem dX11_addMark_73 : decode cX11_addMark 73 = .ok (.goto 4, 3) := by decide +kernel
theorem dX11_addMark_76 : decode cX11_addMark 76 = .ok (.iconst 0, 1) := by decide +kernel
theorem dX11_addMark_77 : decode cX11_addMark 77 = .ok (.iconst 2, 1) := by decide +kernel
theorem dX11_addMark_78 : decode cX11_addMark 78 = .ok (.invokevirtual 146, 3) := by decide +kernel
theorem dX11_addMark_81 : decode cX11_addMark 81 = .ok (.ifCond .eq 5, 3) := by decide +kernel
theorem dX11_addMark_84 : decode cX11_addMark 84 = .ok (.iconst 0, 1) := by decide +kernel
theorem dX11_addMark_85 : decode cX11_addMark 85 = .ok (.ireturn, 1) := by decide +kernel
theorem dX11_addMark_86 : decode cX11_addMark 86 = .ok (.aload_n 0, 1) := by decide +kernel
theorem dX11_addMark_87 : decode cX11_addMark 87 = .ok (.aload_n 0, 1) := by decide +kernel
theorem dX11_addMark_88 : decode cX11_addMark 88 = .ok (.getfield 181, 3) := by decide +kernel
theorem dX11_addMark_91 : decode cX11_addMark 91 = .ok (.bipush 6, 2) := by decide +kernel
theorem dX11_addMark_93 : decode cX11_addMark 93 = .ok (.if_icmp .eq 17, 3) := by decide +kernel
theorem dX11_addMark_96 : decode cX11_addMark 96 = .ok (.aload_n 0, 1) := by decide +kernel
theorem dX11_addMark_97 : decode cX11_addMark 97 = .ok (.invokevirtual 165, 3) := by decide +kernel
theorem dX11_addMark_100 : decode cX11_addMark 100 = .ok (.ifCond .ne 10, 3) := by decide +kernel
theorem dX11_addMark_103 : decode cX11_addMark 103 = .ok (.aload_n 0, 1) := by decide +kernel
theorem dX11_addMark_104 : decode cX11_addMark 104 = .ok (.invokevirtual 169, 3) := by decide +kernel
theorem dX11_addMark_107 : decode cX11_addMark 107 = .ok (.ifCond .eq 7, 3) := by decide +kernel
theorem dX11_addMark_110 : decode cX11_addMark 110 = .ok (.iconst 1, 1) := by decide +kernel
theorem dX11_addMark_111 : decode cX11_addMark 111 = .ok (.goto 4, 3) := by decide +kernel
theorem dX11_addMark_114 : decode cX11_addMark 114 = .ok (.iconst 0, 1) := by decide +kernel
theorem dX11_addMark_115 : decode cX11_addMark 115 = .ok (.iconst 3, 1) := by decide +kernel
theorem dX11_addMark_116 : decode cX11_addMark 116 = .ok (.invokevirtual 146, 3) := by decide +kernel
theorem dX11_addMark_119 : decode cX11_addMark 119 = .ok (.ifCond .eq 5, 3) := by decide +kernel
theorem dX11_addMark_122 : decode cX11_addMark 122 = .ok (.iconst 0, 1) := by decide +kernel
theorem dX11_addMark_123 : decode cX11_addMark 123 = .ok (.ireturn, 1) := by decide +kernel
theorem dX11_addMark_124 : decode cX11_addMark 124 = .ok (.aload_n 0, 1) := by decide +kernel
theorem dX11_addMark_125 : decode cX11_addMark 125 = .ok (.getfield 181, 3) := by decide +kernel
theorem dX11_addMark_128 : decode cX11_addMark 128 = .ok (.istore 4, 2) := by decide +kernel
theorem dX11_addMark_130 : decode cX11_addMark 130 = .ok (.iload 4, 2) := by decide +kernel
theorem dX11_addMark_132 : decode cX11_addMark 132 = .ok (.ifCond .le 70, 3) := by decide +kernel
theorem dX11_addMark_135 : decode cX11_addMark 135 = .ok (.aload_n 0, 1) := by decide +kernel
theorem dX11_addMark_136 : decode cX11_addMark 136 = .ok (.getfield 53, 3) := by decide +kernel
theorem dX11_addMark_139 : decode cX11_addMark 139 = .ok (.iload 4, 2) := by decide +kernel
theorem dX11_addMark_141 : decode cX11_addMark 141 = .ok (.iconst 1, 1) := by decide +kernel
theorem dX11_addMark_142 : decode cX11_addMark 142 = .ok (.isub, 1) := by decide +kernel
theorem dX11_addMark_143 : decode cX11_addMark 143 = .ok (.iaload, 1) := by decide +kernel
theorem dX11_addMark_144 : decode cX11_addMark 144 = .ok (.iload_n 1, 1) := by decide +kernel
theorem dX11_addMark_145 : decode cX11_addMark 145 = .ok (.if_icmp .le 57, 3) := by decide +kernel
theorem dX11_addMark_148 : decode cX11_addMark 148 = .ok (.aload_n 0, 1) := by decide +kernel
theorem dX11_addMark_149 : decode cX11_addMark 149 = .ok (.getfield 53, 3) := by decide +kernel
theorem dX11_addMark_152 : decode cX11_addMark 152 = .ok (.iload 4, 2) := by decide +kernel
theorem dX11_addMark_154 : decode cX11_addMark 154 = .ok (.aload_n 0, 1) := by decide +kernel
theorem dX11_addMark_155 : decode cX11_addMark 155 = .ok (.getfield 53, 3) := by decide +kernel
theorem dX11_addMark_158 : decode cX11_addMark 158 = .ok (.iload 4, 2) := by decide +kernel
theorem dX11_addMark_160 : decode cX11_addMark 160 = .ok (.iconst 1, 1) := by decide +kernel
theorem dX11_addMark_161 : decode cX11_addMark 161 = .ok (.isub, 1) := by decide +kernel
theorem dX11_addMark_162 : decode cX11_addMark 162 = .ok (.iaload, 1) := by decide +kernel
theorem dX11_addMark_163 : decode cX11_addMark 163 = .ok (.iastore, 1) := by decide +kernel
theorem dX11_addMark_164 : decode cX11_addMark 164 = .ok (.aload_n 0, 1) := by decide +kernel
theorem dX11_addMark_165 : decode cX11_addMark 165 = .ok (.getfield 56, 3) := by decide +kernel
theorem dX11_addMark_168 : decode cX11_addMark 168 = .ok (.iload 4, 2) := by decide +kernel
theorem dX11_addMark_170 : decode cX11_addMark 170 = .ok (.aload_n 0, 1) := by decide +kernel
theorem dX11_addMark_171 : decode cX11_addMark 171 = .ok (.getfield 56, 3) := by decide +kernel
theorem dX11_addMark_174 : decode cX11_addMark 174 = .ok (.iload 4, 2) := by decide +kernel
theorem dX11_addMark_176 : decode cX11_addMark 176 = .ok (.iconst 1, 1) := by decide +kernel
theorem dX11_addMark_177 : decode cX11_addMark 177 = .ok (.isub, 1) := by decide +kernel
theorem dX11_addMark_178 : decode cX11_addMark 178 = .ok (.iaload, 1) := by decide +kernel
theorem dX11_addMark_179 : decode cX11_addMark 179 = .ok (.iastore, 1) := by decide +kernel
theorem dX11_addMark_180 : decode cX11_addMark 180 = .ok (.aload_n 0, 1) := by decide +kernel
theorem dX11_addMark_181 : decode cX11_addMark 181 = .ok (.getfield 59, 3) := by decide +kernel
theorem dX11_addMark_184 : decode cX11_addMark 184 = .ok (.iload 4, 2) := by decide +kernel
theorem dX11_addMark_186 : decode cX11_addMark 186 = .ok (.aload_n 0, 1) := by decide +kernel
theorem dX11_addMark_187 : decode cX11_addMark 187 = .ok (.getfield 59, 3) := by decide +kernel
theorem dX11_addMark_190 : decode cX11_addMark 190 = .ok (.iload 4, 2) := by decide +kernel
theorem dX11_addMark_192 : decode cX11_addMark 192 = .ok (.iconst 1, 1) := by decide +kernel
theorem dX11_addMark_193 : decode cX11_addMark 193 = .ok (.isub, 1) := by decide +kernel
theorem dX11_addMark_194 : decode cX11_addMark 194 = .ok (.iaload, 1) := by decide +kernel
theorem dX11_addMark_195 : decode cX11_addMark 195 = .ok (.iastore, 1) := by decide +kernel
theorem dX11_addMark_196 : decode cX11_addMark 196 = .ok (.iinc 4 (-1), 3) := by decide +kernel
theorem dX11_addMark_199 : decode cX11_addMark 199 = .ok (.goto (-69), 3) := by decide +kernel
theorem dX11_addMark_202 : decode cX11_addMark 202 = .ok (.aload_n 0, 1) := by decide +kernel
theorem dX11_addMark_203 : decode cX11_addMark 203 = .ok (.getfield 53, 3) := by decide +kernel
theorem dX11_addMark_206 : decode cX11_addMark 206 = .ok (.iload 4, 2) := by decide +kernel
theorem dX11_addMark_208 : decode cX11_addMark 208 = .ok (.iload_n 1, 1) := by decide +kernel
theorem dX11_addMark_209 : decode cX11_addMark 209 = .ok (.iastore, 1) := by decide +kernel
theorem dX11_addMark_210 : decode cX11_addMark 210 = .ok (.aload_n 0, 1) := by decide +kernel
theorem dX11_addMark_211 : decode cX11_addMark 211 = .ok (.getfield 56, 3) := by decide +kernel
theorem dX11_addMark_214 : decode cX11_addMark 214 = .ok (.iload 4, 2) := by decide +kernel
theorem dX11_addMark_216 : decode cX11_addMark 216 = .ok (.iload_n 2, 1) := by decide +kernel
theorem dX11_addMark_217 : decode cX11_addMark 217 = .ok (.iastore, 1) := by decide +kernel
theorem dX11_addMark_218 : decode cX11_addMark 218 = .ok (.aload_n 0, 1) := by decide +kernel
theorem dX11_addMark_219 : decode cX11_addMark 219 = .ok (.getfield 59, 3) := by decide +kernel
theorem dX11_addMark_222 : decode cX11_addMark 222 = .ok (.iload 4, 2) := by decide +kernel
theorem dX11_addMark_224 : decode cX11_addMark 224 = .ok (.iload_n 3, 1) := by decide +kernel
theorem dX11_addMark_225 : decode cX11_addMark 225 = .ok (.iastore, 1) := by decide +kernel
theorem dX11_addMark_226 : decode cX11_addMark 226 = .ok (.aload_n 0, 1) := by decide +kernel
theorem dX11_addMark_227 : decode cX11_addMark 227 = .ok (.dup, 1) := by decide +kernel
theorem dX11_addMark_228 : decode cX11_addMark 228 = .ok (.getfield 181, 3) := by decide +kernel
theorem dX11_addMark_231 : decode cX11_addMark 231 = .ok (.iconst 1, 1) := by decide +kernel
theorem dX11_addMark_232 : decode cX11_addMark 232 = .ok (.iadd, 1) := by decide +kernel
theorem dX11_addMark_233 : decode cX11_addMark 233 = .ok (.putfield 181, 3) := by decide +kernel
theorem dX11_addMark_236 : decode cX11_addMark 236 = .ok (.aload_n 0, 1) := by decide +kernel
theorem dX11_addMark_237 : decode cX11_addMark 237 = .ok (.getfield 181, 3) := by decide +kernel
theorem dX11_addMark_240 : decode cX11_addMark 240 = .ok (.ireturn, 1) := by decide +kernel
theorem dX11_counting_0 : decode cX11_counting 0 = .ok (.iconst 0, 1) := by decide +kernel
theorem dX11_counting_1 : decode cX11_counting 1 = .ok (.istore_n 2, 1) := by decide +kernel
theorem dX11_counting_2 : decode cX11_counting 2 = .ok (.iconst 3, 1) := by decide +kernel
theorem dX11_counting_3 : decode cX11_counting 3 = .ok (.iload_n 1, 1) := by decide +kernel
theorem dX11_counting_4 : decode cX11_counting 4 = .ok (.imul, 1) := by decide +kernel
theorem dX11_counting_5 : decode cX11_counting 5 = .ok (.istore_n 3, 1) := by decide +kernel
theorem dX11_counting_6 : decode cX11_counting 6 = .ok (.iload_n 3, 1) := by decide +kernel
theorem dX11_counting_7 : decode cX11_counting 7 = .ok (.iconst 3, 1) := by decide +kernel
theorem dX11_counting_8 : decode cX11_counting 8 = .ok (.iload_n 1, 1) := by decide +kernel
theorem dX11_counting_9 : decode cX11_counting 9 = .ok (.imul, 1) := by decide +kernel
theorem dX11_counting_10 : decode cX11_counting 10 = .ok (.iconst 3, 1) := by decide +kernel
theorem dX11_counting_11 : decode cX11_counting 11 = .ok (.iadd, 1) := by decide +kernel
theorem dX11_counting_12 : decode cX11_counting 12 = .ok (.if_icmp .ge 26, 3) := by decide +kernel
theorem dX11_counting_15 : decode cX11_counting 15 = .ok (.iload_n 2, 1) := by decide +kernel
theorem dX11_counting_16 : decode cX11_counting 16 = .ok (.aload_n 0, 1) := by decide +kernel
theorem dX11_counting_17 : decode cX11_counting 17 = .ok (.getfield 65, 3) := by decide +kernel
theorem dX11_counting_20 : decode cX11_counting 20 = .ok (.iload_n 3, 1) := by decide +kernel
theorem dX11_counting_21 : decode cX11_counting 21 = .ok (.baload, 1) := by decide +kernel
theorem dX11_counting_22 : decode cX11_counting 22 = .ok (.ifCond .eq 7, 3) := by decide +kernel
theorem dX11_counting_25 : decode cX11_counting 25 = .ok (.iconst 0, 1) := by decide +kernel
theorem dX11_counting_26 : decode cX11_counting 26 = .ok (.goto 4, 3) := by decide +kernel
theorem dX11_counting_29 : decode cX11_counting 29 = .ok (.iconst 1, 1) := by decide +kernel
theorem dX11_counting_30 : decode cX11_counting 30 = .ok (.iadd, 1) := by decide +kernel
theorem dX11_counting_31 : decode cX11_counting 31 = .ok (.istore_n 2, 1) := by decide +kernel
theorem dX11_counting_32 : decode cX11_counting 32 = .ok (.iinc 3 1, 3) := by decide +kernel
theorem dX11_counting_35 : decode cX11_counting 35 = .ok (.goto (-29), 3) := by decide +kernel
theorem dX11_counting_38 : decode cX11_counting 38 = .ok (.iload_n 2, 1) := by decide +kernel
theorem dX11_counting_39 : decode cX11_counting 39 = .ok (.ireturn, 1) := by decide +kernel
theorem dX11_together_0 : decode cX11_together 0 = .ok (.iconst 0, 1) := by decide +kernel
theorem dX11_together_1 : decode cX11_together 1 = .ok (.istore_n 2, 1) := by decide +kernel
theorem dX11_together_2 : decode cX11_together 2 = .ok (.sipush 10000, 3) := by decide +kernel
theorem dX11_together_5 : decode cX11_together 5 = .ok (.istore_n 3, 1) := by decide +kernel
theorem dX11_together_6 : decode cX11_together 6 = .ok (.sipush (-10000), 3) := by decide +kernel
theorem dX11_together_9 : decode cX11_together 9 = .ok (.istore 4, 2) := by decide +kernel
theorem dX11_together_11 : decode cX11_together 11 = .ok (.iconst 3, 1) := by decide +kernel
theorem dX11_together_12 : decode cX11_together 12 = .ok (.iload_n 1, 1) := by decide +kernel
theorem dX11_together_13 : decode cX11_together 13 = .ok (.imul, 1) := by decide +kernel
theorem dX11_together_14 : decode cX11_together 14 = .ok (.istore 5, 2) := by decide +kernel
theorem dX11_together_16 : decode cX11_together 16 = .ok (.iload 5, 2) := by decide +kernel
theorem dX11_together_18 : decode cX11_together 18 = .ok (.iconst 3, 1) := by decide +kernel
theorem dX11_together_19 : decode cX11_together 19 = .ok (.iload_n 1, 1) := by decide +kernel
theorem dX11_together_20 : decode cX11_together 20 = .ok (.imul, 1) := by decide +kernel
theorem dX11_together_21 : decode cX11_together 21 = .ok (.iconst 3, 1) := by decide +kernel
theorem dX11_together_22 : decode cX11_together 22 = .ok (.iadd, 1) := by decide +kernel
theorem dX11_together_23 : decode cX11_together 23 = .ok (.if_icmp .ge 55, 3) := by decide +kernel
theorem dX11_together_26 : decode cX11_together 26 = .ok (.aload_n 0, 1) := by decide +kernel
theorem dX11_together_27 : decode cX11_together 27 = .ok (.getfield 65, 3) := by decide +kernel
theorem dX11_together_30 : decode cX11_together 30 = .ok (.iload 5, 2) := by decide +kernel
theorem dX11_together_32 : decode cX11_together 32 = .ok (.baload, 1) := by decide +kernel
theorem dX11_together_33 : decode cX11_together 33 = .ok (.ifCond .ne 39, 3) := by decide +kernel
theorem dX11_together_36 : decode cX11_together 36 = .ok (.iload_n 2, 1) := by decide +kernel
theorem dX11_together_37 : decode cX11_together 37 = .ok (.aload_n 0, 1) := by decide +kernel
theorem dX11_together_38 : decode cX11_together 38 = .ok (.getfield 62, 3) := by decide +kernel
theorem dX11_together_41 : decode cX11_together 41 = .ok (.iload 5, 2) := by decide +kernel
theorem dX11_together_43 : decode cX11_together 43 = .ok (.iaload, 1) := by decide +kernel
theorem dX11_together_44 : decode cX11_together 44 = .ok (.iadd, 1) := by decide +kernel
theorem dX11_together_45 : decode cX11_together 45 = .ok (.istore_n 2, 1) := by decide +kernel
theorem dX11_together_46 : decode cX11_together 46 = .ok (.iload_n 3, 1) := by decide +kernel
theorem dX11_together_47 : decode cX11_together 47 = .ok (.aload_n 0, 1) := by decide +kernel
theorem dX11_together_48 : decode cX11_together 48 = .ok (.getfield 62, 3) := by decide +kernel
theorem dX11_together_51 : decode cX11_together 51 = .ok (.iload 5, 2) := by decide +kernel
theorem dX11_together_53 : decode cX11_together 53 = .ok (.iaload, 1) := by decide +kernel
theorem dX11_together_54 : decode cX11_together 54 = .ok (.invokestatic 150, 3) := by decide +kernel
theorem dX11_together_57 : decode cX11_together 57 = .ok (.istore_n 3, 1) := by decide +kernel
theorem dX11_together_58 : decode cX11_together 58 = .ok (.iload 4, 2) := by decide +kernel
theorem dX11_together_60 : decode cX11_together 60 = .ok (.aload_n 0, 1) := by decide +kernel
theorem dX11_together_61 : decode cX11_together 61 = .ok (.getfield 62, 3) := by decide +kernel
theorem dX11_together_64 : decode cX11_together 64 = .ok (.iload 5, 2) := by decide +kernel
theorem dX11_together_66 : decode cX11_together 66 = .ok (.iaload, 1) := by decide +kernel
theorem dX11_together_67 : decode cX11_together 67 = .ok (.invokestatic 187, 3) := by decide +kernel
theorem dX11_together_70 : decode cX11_together 70 = .ok (.istore 4, 2) := by decide +kernel
theorem dX11_together_72 : decode cX11_together 72 = .ok (.iinc 5 1, 3) := by decide +kernel
theorem dX11_together_75 : decode cX11_together 75 = .ok (.goto (-59), 3) := by decide +kernel
theorem dX11_together_78 : decode cX11_together 78 = .ok (.aload_n 0, 1) := by decide +kernel
theorem dX11_together_79 : decode cX11_together 79 = .ok (.iload_n 1, 1) := by decide +kernel
theorem dX11_together_80 : decode cX11_together 80 = .ok (.invokevirtual 190, 3) := by decide +kernel
theorem dX11_together_83 : decode cX11_together 83 = .ok (.istore 5, 2) := by decide +kernel
theorem dX11_together_85 : decode cX11_together 85 = .ok (.iload 5, 2) := by decide +kernel
theorem dX11_together_87 : decode cX11_together 87 = .ok (.iconst 3, 1) := by decide +kernel
theorem dX11_together_88 : decode cX11_together 88 = .ok (.if_icmp .ne 12, 3) := by decide +kernel
theorem dX11_together_91 : decode cX11_together 91 = .ok (.iload_n 2, 1) := by decide +kernel
theorem dX11_together_92 : decode cX11_together 92 = .ok (.iload_n 3, 1) := by decide +kernel
theorem dX11_together_93 : decode cX11_together 93 = .ok (.isub, 1) := by decide +kernel
theorem dX11_together_94 : decode cX11_together 94 = .ok (.iload 4, 2) := by decide +kernel
theorem dX11_together_96 : decode cX11_together 96 = .ok (.isub, 1) := by decide +kernel
theorem dX11_together_97 : decode cX11_together 97 = .ok (.goto 7, 3) := by decide +kernel
theorem dX11_together_100 : decode cX11_together 100 = .ok (.iload_n 2, 1) := by decide +kernel
theorem dX11_together_101 : decode cX11_together 101 = .ok (.iload 5, 2) := by decide +kernel
theorem dX11_together_103 : decode cX11_together 103 = .ok (.idiv, 1) := by decide +kernel
theorem dX11_together_104 : decode cX11_together 104 = .ok (.ireturn, 1) := by decide +kernel
theorem dX11_sense_0 : decode cX11_sense 0 = .ok (.aload_n 0, 1) := by decide +kernel
theorem dX11_sense_1 : decode cX11_sense 1 = .ok (.iconst 0, 1) := by decide +kernel
theorem dX11_sense_2 : decode cX11_sense 2 = .ok (.putfield 117, 3) := by decide +kernel
theorem dX11_sense_5 : decode cX11_sense 5 = .ok (.aload_n 0, 1) := by decide +kernel
theorem dX11_sense_6 : decode cX11_sense 6 = .ok (.iload_n 1, 1) := by decide +kernel
theorem dX11_sense_7 : decode cX11_sense 7 = .ok (.i2l, 1) := by decide +kernel
theorem dX11_sense_8 : decode cX11_sense 8 = .ok (.lconst 0, 1) := by decide +kernel
theorem dX11_sense_9 : decode cX11_sense 9 = .ok (.ldc2_w 193, 3) := by decide +kernel
theorem dX11_sense_12 : decode cX11_sense 12 = .ok (.invokestatic 132, 3) := by decide +kernel
theorem dX11_sense_15 : decode cX11_sense 15 = .ok (.ifCond .eq 17, 3) := by decide +kernel
theorem dX11_sense_18 : decode cX11_sense 18 = .ok (.iload_n 2, 1) := by decide +kernel
theorem dX11_sense_19 : decode cX11_sense 19 = .ok (.i2l, 1) := by decide +kernel
theorem dX11_sense_20 : decode cX11_sense 20 = .ok (.ldc2_w 195, 3) := by decide +kernel
theorem dX11_sense_23 : decode cX11_sense 23 = .ok (.ldc2_w 197, 3) := by decide +kernel
theorem dX11_sense_26 : decode cX11_sense 26 = .ok (.invokestatic 132, 3) := by decide +kernel
theorem dX11_sense_29 : decode cX11_sense 29 = .ok (.ifCond .ne 7, 3) := by decide +kernel
theorem dX11_sense_32 : decode cX11_sense 32 = .ok (.iconst 1, 1) := by decide +kernel
theorem dX11_sense_33 : decode cX11_sense 33 = .ok (.goto 4, 3) := by decide +kernel
theorem dX11_sense_36 : decode cX11_sense 36 = .ok (.iconst 0, 1) := by decide +kernel
theorem dX11_sense_37 : decode cX11_sense 37 = .ok (.iconst 1, 1) := by decide +kernel
theorem dX11_sense_38 : decode cX11_sense 38 = .ok (.invokevirtual 146, 3) := by decide +kernel
theorem dX11_sense_41 : decode cX11_sense 41 = .ok (.ifCond .eq 5, 3) := by decide +kernel
theorem dX11_sense_44 : decode cX11_sense 44 = .ok (.iconst 0, 1) := by decide +kernel
theorem dX11_sense_45 : decode cX11_sense 45 = .ok (.ireturn, 1) := by decide +kernel
theorem dX11_sense_46 : decode cX11_sense 46 = .ok (.aload_n 0, 1) := by decide +kernel
theorem dX11_sense_47 : decode cX11_sense 47 = .ok (.getfield 62, 3) := by decide +kernel
theorem dX11_sense_50 : decode cX11_sense 50 = .ok (.iload_n 1, 1) := by decide +kernel
theorem dX11_sense_51 : decode cX11_sense 51 = .ok (.iload_n 2, 1) := by decide +kernel
theorem dX11_sense_52 : decode cX11_sense 52 = .ok (.iastore, 1) := by decide +kernel
theorem dX11_sense_53 : decode cX11_sense 53 = .ok (.aload_n 0, 1) := by decide +kernel
theorem dX11_sense_54 : decode cX11_sense 54 = .ok (.iload_n 1, 1) := by decide +kernel
theorem dX11_sense_55 : decode cX11_sense 55 = .ok (.iconst 3, 1) := by decide +kernel
theorem dX11_sense_56 : decode cX11_sense 56 = .ok (.idiv, 1) := by decide +kernel
theorem dX11_sense_57 : decode cX11_sense 57 = .ok (.invokevirtual 199, 3) := by decide +kernel
theorem dX11_sense_60 : decode cX11_sense 60 = .ok (.ireturn, 1) := by decide +kernel
theorem dX11_inhibit_0 : decode cX11_inhibit 0 = .ok (.aload_n 0, 1) := by decide +kernel
theorem dX11_inhibit_1 : decode cX11_inhibit 1 = .ok (.iconst 0, 1) := by decide +kernel
theorem dX11_inhibit_2 : decode cX11_inhibit 2 = .ok (.putfield 117, 3) := by decide +kernel
theorem dX11_inhibit_5 : decode cX11_inhibit 5 = .ok (.aload_n 0, 1) := by decide +kernel
theorem dX11_inhibit_6 : decode cX11_inhibit 6 = .ok (.iload_n 1, 1) := by decide +kernel
theorem dX11_inhibit_7 : decode cX11_inhibit 7 = .ok (.i2l, 1) := by decide +kernel
theorem dX11_inhibit_8 : decode cX11_inhibit 8 = .ok (.lconst 0, 1) := by decide +kernel
theorem dX11_inhibit_9 : decode cX11_inhibit 9 = .ok (.ldc2_w 193, 3) := by decide +kernel
theorem dX11_inhibit_12 : decode cX11_inhibit 12 = .ok (.invokestatic 132, 3) := by decide +kernel
theorem dX11_inhibit_15 : decode cX11_inhibit 15 = .ok (.ifCond .ne 7, 3) := by decide +kernel
theorem dX11_inhibit_18 : decode cX11_inhibit 18 = .ok (.iconst 1, 1) := by decide +kernel
theorem dX11_inhibit_19 : decode cX11_inhibit 19 = .ok (.goto 4, 3) := by decide +kernel
theorem dX11_inhibit_22 : decode cX11_inhibit 22 = .ok (.iconst 0, 1) := by decide +kernel
theorem dX11_inhibit_23 : decode cX11_inhibit 23 = .ok (.iconst 1, 1) := by decide +kernel
theorem dX11_inhibit_24 : decode cX11_inhibit 24 = .ok (.invokevirtual 146, 3) := by decide +kernel
theorem dX11_inhibit_27 : decode cX11_inhibit 27 = .ok (.ifCond .ne 40, 3) := by decide +kernel
theorem dX11_inhibit_30 : decode cX11_inhibit 30 = .ok (.aload_n 0, 1) := by decide +kernel
theorem dX11_inhibit_31 : decode cX11_inhibit 31 = .ok (.iload_n 2, 1) := by decide +kernel
theorem dX11_inhibit_32 : decode cX11_inhibit 32 = .ok (.ifCond .eq 27, 3) := by decide +kernel
theorem dX11_inhibit_35 : decode cX11_inhibit 35 = .ok (.aload_n 0, 1) := by decide +kernel
theorem dX11_inhibit_36 : decode cX11_inhibit 36 = .ok (.getfield 65, 3) := by decide +kernel
theorem dX11_inhibit_39 : decode cX11_inhibit 39 = .ok (.iload_n 1, 1) := by decide +kernel
theorem dX11_inhibit_40 : decode cX11_inhibit 40 = .ok (.baload, 1) := by decide +kernel
theorem dX11_inhibit_41 : decode cX11_inhibit 41 = .ok (.ifCond .ne 18, 3) := by decide +kernel
theorem dX11_inhibit_44 : decode cX11_inhibit 44 = .ok (.aload_n 0, 1) := by decide +kernel
theorem dX11_inhibit_45 : decode cX11_inhibit 45 = .ok (.iload_n 1, 1) := by decide +kernel
theorem dX11_inhibit_46 : decode cX11_inhibit 46 = .ok (.iconst 3, 1) := by decide +kernel
theorem dX11_inhibit_47 : decode cX11_inhibit 47 = .ok (.idiv, 1) := by decide +kernel
theorem dX11_inhibit_48 : decode cX11_inhibit 48 = .ok (.invokevirtual 190, 3) := by decide +kernel
theorem dX11_inhibit_51 : decode cX11_inhibit 51 = .ok (.iconst 1, 1) := by decide +kernel
theorem dX11_inhibit_52 : decode cX11_inhibit 52 = .ok (.if_icmp .ne 7, 3) := by decide +kernel
theorem dX11_inhibit_55 : decode cX11_inhibit 55 = .ok (.iconst 1, 1) := by decide +kernel
theorem dX11_inhibit_56 : decode cX11_inhibit 56 = .ok (.goto 4, 3) := by decide +kernel
theorem dX11_inhibit_59 : decode cX11_inhibit 59 = .ok (.iconst 0, 1) := by decide +kernel
theorem dX11_inhibit_60 : decode cX11_inhibit 60 = .ok (.iconst 2, 1) := by decide +kernel
theorem dX11_inhibit_61 : decode cX11_inhibit 61 = .ok (.invokevirtual 146, 3) := by decide +kernel
theorem dX11_inhibit_64 : decode cX11_inhibit 64 = .ok (.ifCond .eq 5, 3) := by decide +kernel
theorem dX11_inhibit_67 : decode cX11_inhibit 67 = .ok (.iconst 0, 1) := by decide +kernel
theorem dX11_inhibit_68 : decode cX11_inhibit 68 = .ok (.ireturn, 1) := by decide +kernel
theorem dX11_inhibit_69 : decode cX11_inhibit 69 = .ok (.aload_n 0, 1) := by decide +kernel
theorem dX11_inhibit_70 : decode cX11_inhibit 70 = .ok (.getfield 65, 3) := by decide +kernel
theorem dX11_inhibit_73 : decode cX11_inhibit 73 = .ok (.iload_n 1, 1) := by decide +kernel
theorem dX11_inhibit_74 : decode cX11_inhibit 74 = .ok (.iload_n 2, 1) := by decide +kernel
theorem dX11_inhibit_75 : decode cX11_inhibit 75 = .ok (.bastore, 1) := by decide +kernel
theorem dX11_inhibit_76 : decode cX11_inhibit 76 = .ok (.aload_n 0, 1) := by decide +kernel
theorem dX11_inhibit_77 : decode cX11_inhibit 77 = .ok (.iload_n 1, 1) := by decide +kernel
theorem dX11_inhibit_78 : decode cX11_inhibit 78 = .ok (.iconst 3, 1) := by decide +kernel
theorem dX11_inhibit_79 : decode cX11_inhibit 79 = .ok (.idiv, 1) := by decide +kernel
theorem dX11_inhibit_80 : decode cX11_inhibit 80 = .ok (.invokevirtual 190, 3) := by decide +kernel
theorem dX11_inhibit_83 : decode cX11_inhibit 83 = .ok (.ireturn, 1) := by decide +kernel
theorem dX11_setWind_0 : decode cX11_setWind 0 = .ok (.aload_n 0, 1) := by decide +kernel
theorem dX11_setWind_1 : decode cX11_setWind 1 = .ok (.iconst 0, 1) := by decide +kernel
theorem dX11_setWind_2 : decode cX11_setWind 2 = .ok (.putfield 117, 3) := by decide +kernel
theorem dX11_setWind_5 : decode cX11_setWind 5 = .ok (.aload_n 0, 1) := by decide +kernel
theorem dX11_setWind_6 : decode cX11_setWind 6 = .ok (.iload_n 1, 1) := by decide +kernel
theorem dX11_setWind_7 : decode cX11_setWind 7 = .ok (.i2l, 1) := by decide +kernel
theorem dX11_setWind_8 : decode cX11_setWind 8 = .ok (.lconst 0, 1) := by decide +kernel
theorem dX11_setWind_9 : decode cX11_setWind 9 = .ok (.ldc2_w 202, 3) := by decide +kernel
theorem dX11_setWind_12 : decode cX11_setWind 12 = .ok (.invokestatic 132, 3) := by decide +kernel
theorem dX11_setWind_15 : decode cX11_setWind 15 = .ok (.ifCond .ne 7, 3) := by decide +kernel
theorem dX11_setWind_18 : decode cX11_setWind 18 = .ok (.iconst 1, 1) := by decide +kernel
theorem dX11_setWind_19 : decode cX11_setWind 19 = .ok (.goto 4, 3) := by decide +kernel
theorem dX11_setWind_22 : decode cX11_setWind 22 = .ok (.iconst 0, 1) := by decide +kernel
theorem dX11_setWind_23 : decode cX11_setWind 23 = .ok (.iconst 1, 1) := by decide +kernel
theorem dX11_setWind_24 : decode cX11_setWind 24 = .ok (.invokevirtual 146, 3) := by decide +kernel
theorem dX11_setWind_27 : decode cX11_setWind 27 = .ok (.ifCond .eq 5, 3) := by decide +kernel
theorem dX11_setWind_30 : decode cX11_setWind 30 = .ok (.iconst 0, 1) := by decide +kernel
theorem dX11_setWind_31 : decode cX11_setWind 31 = .ok (.ireturn, 1) := by decide +kernel
theorem dX11_setWind_32 : decode cX11_setWind 32 = .ok (.aload_n 0, 1) := by decide +kernel
theorem dX11_setWind_33 : decode cX11_setWind 33 = .ok (.getfield 204, 3) := by decide +kernel
theorem dX11_setWind_36 : decode cX11_setWind 36 = .ok (.istore_n 2, 1) := by decide +kernel
theorem dX11_setWind_37 : decode cX11_setWind 37 = .ok (.aload_n 0, 1) := by decide +kernel
theorem dX11_setWind_38 : decode cX11_setWind 38 = .ok (.iload_n 1, 1) := by decide +kernel
theorem dX11_setWind_39 : decode cX11_setWind 39 = .ok (.putfield 204, 3) := by decide +kernel
theorem dX11_setWind_42 : decode cX11_setWind 42 = .ok (.iload_n 2, 1) := by decide +kernel
theorem dX11_setWind_43 : decode cX11_setWind 43 = .ok (.ireturn, 1) := by decide +kernel
theorem dX11_near_0 : decode cX11_near 0 = .ok (.iconst 0, 1) := by decide +kernel
theorem dX11_near_1 : decode cX11_near 1 = .ok (.istore_n 1, 1) := by decide +kernel
theorem dX11_near_2 : decode cX11_near 2 = .ok (.iconst 0, 1) := by decide +kernel
theorem dX11_near_3 : decode cX11_near 3 = .ok (.istore_n 2, 1) := by decide +kernel
theorem dX11_near_4 : decode cX11_near 4 = .ok (.iload_n 2, 1) := by decide +kernel
theorem dX11_near_5 : decode cX11_near 5 = .ok (.aload_n 0, 1) := by decide +kernel
theorem dX11_near_6 : decode cX11_near 6 = .ok (.getfield 207, 3) := by decide +kernel
theorem dX11_near_9 : decode cX11_near 9 = .ok (.if_icmp .ge 34, 3) := by decide +kernel
theorem dX11_near_12 : decode cX11_near 12 = .ok (.iload_n 1, 1) := by decide +kernel
theorem dX11_near_13 : decode cX11_near 13 = .ok (.aload_n 0, 1) := by decide +kernel
theorem dX11_near_14 : decode cX11_near 14 = .ok (.getfield 68, 3) := by decide +kernel
theorem dX11_near_17 : decode cX11_near 17 = .ok (.iload_n 2, 1) := by decide +kernel
theorem dX11_near_18 : decode cX11_near 18 = .ok (.iaload, 1) := by decide +kernel
theorem dX11_near_19 : decode cX11_near 19 = .ok (.aload_n 0, 1) := by decide +kernel
theorem dX11_near_20 : decode cX11_near 20 = .ok (.getfield 120, 3) := by decide +kernel
theorem dX11_near_23 : decode cX11_near 23 = .ok (.sipush 600, 3) := by decide +kernel
theorem dX11_near_26 : decode cX11_near 26 = .ok (.isub, 1) := by decide +kernel
theorem dX11_near_27 : decode cX11_near 27 = .ok (.if_icmp .le 7, 3) := by decide +kernel
theorem dX11_near_30 : decode cX11_near 30 = .ok (.iconst 1, 1) := by decide +kernel
theorem dX11_near_31 : decode cX11_near 31 = .ok (.goto 4, 3) := by decide +kernel
theorem dX11_near_34 : decode cX11_near 34 = .ok (.iconst 0, 1) := by decide +kernel
theorem dX11_near_35 : decode cX11_near 35 = .ok (.iadd, 1) := by decide +kernel
theorem dX11_near_36 : decode cX11_near 36 = .ok (.istore_n 1, 1) := by decide +kernel
theorem dX11_near_37 : decode cX11_near 37 = .ok (.iinc 2 1, 3) := by decide +kernel
theorem dX11_near_40 : decode cX11_near 40 = .ok (.goto (-36), 3) := by decide +kernel
theorem dX11_near_43 : decode cX11_near 43 = .ok (.iload_n 1, 1) := by decide +kernel
theorem dX11_near_44 : decode cX11_near 44 = .ok (.ireturn, 1) := by decide +kernel
theorem dX11_strike_0 : decode cX11_strike 0 = .ok (.aload_n 0, 1) := by decide +kernel
theorem dX11_strike_1 : decode cX11_strike 1 = .ok (.iconst 0, 1) := by decide +kernel
theorem dX11_strike_2 : decode cX11_strike 2 = .ok (.putfield 117, 3) := by decide +kernel
theorem dX11_strike_5 : decode cX11_strike 5 = .ok (.aload_n 0, 1) := by decide +kernel
theorem dX11_strike_6 : decode cX11_strike 6 = .ok (.iload_n 1, 1) := by decide +kernel
theorem dX11_strike_7 : decode cX11_strike 7 = .ok (.i2l, 1) := by decide +kernel
theorem dX11_strike_8 : decode cX11_strike 8 = .ok (.lconst 0, 1) := by decide +kernel
theorem dX11_strike_9 : decode cX11_strike 9 = .ok (.ldc2_w 210, 3) := by decide +kernel
theorem dX11_strike_12 : decode cX11_strike 12 = .ok (.invokestatic 132, 3) := by decide +kernel
theorem dX11_strike_15 : decode cX11_strike 15 = .ok (.ifCond .ne 7, 3) := by decide +kernel
theorem dX11_strike_18 : decode cX11_strike 18 = .ok (.iconst 1, 1) := by decide +kernel
theorem dX11_strike_19 : decode cX11_strike 19 = .ok (.goto 4, 3) := by decide +kernel
theorem dX11_strike_22 : decode cX11_strike 22 = .ok (.iconst 0, 1) := by decide +kernel
theorem dX11_strike_23 : decode cX11_strike 23 = .ok (.iconst 1, 1) := by decide +kernel
theorem dX11_strike_24 : decode cX11_strike 24 = .ok (.invokevirtual 146, 3) := by decide +kernel
theorem dX11_strike_27 : decode cX11_strike 27 = .ok (.ifCond .eq 5, 3) := by decide +kernel
theorem dX11_strike_30 : decode cX11_strike 30 = .ok (.iconst 0, 1) := by decide +kernel
theorem dX11_strike_31 : decode cX11_strike 31 = .ok (.ireturn, 1) := by decide +kernel
theorem dX11_strike_32 : decode cX11_strike 32 = .ok (.iload_n 1, 1) := by decide +kernel
theorem dX11_strike_33 : decode cX11_strike 33 = .ok (.bipush 20, 2) := by decide +kernel
theorem dX11_strike_35 : decode cX11_strike 35 = .ok (.if_icmp .gt 77, 3) := by decide +kernel
theorem dX11_strike_38 : decode cX11_strike 38 = .ok (.aload_n 0, 1) := by decide +kernel
theorem dX11_strike_39 : decode cX11_strike 39 = .ok (.getfield 207, 3) := by decide +kernel
theorem dX11_strike_42 : decode cX11_strike 42 = .ok (.aload_n 0, 1) := by decide +kernel
theorem dX11_strike_43 : decode cX11_strike 43 = .ok (.getfield 68, 3) := by decide +kernel
theorem dX11_strike_46 : decode cX11_strike 46 = .ok (.arraylength, 1) := by decide +kernel
theorem dX11_strike_47 : decode cX11_strike 47 = .ok (.if_icmp .ne 42, 3) := by decide +kernel
theorem dX11_strike_50 : decode cX11_strike 50 = .ok (.iconst 2, 1) := by decide +kernel
theorem dX11_strike_51 : decode cX11_strike 51 = .ok (.aload_n 0, 1) := by decide +kernel
theorem dX11_strike_52 : decode cX11_strike 52 = .ok (.getfield 207, 3) := by decide +kernel
theorem dX11_strike_55 : decode cX11_strike 55 = .ok (.imul, 1) := by decide +kernel
theorem dX11_strike_56 : decode cX11_strike 56 = .ok (.newarray .int, 2) := by decide +kernel
theorem dX11_strike_58 : decode cX11_strike 58 = .ok (.astore_n 2, 1) := by decide +kernel
theorem dX11_strike_59 : decode cX11_strike 59 = .ok (.iconst 0, 1) := by decide +kernel
theorem dX11_strike_60 : decode cX11_strike 60 = .ok (.istore_n 3, 1) := by decide +kernel
theorem dX11_strike_61 : decode cX11_strike 61 = .ok (.iload_n 3, 1) := by decide +kernel
theorem dX11_strike_62 : decode cX11_strike 62 = .ok (.aload_n 0, 1) := by decide +kernel
theorem dX11_strike_63 : decode cX11_strike 63 = .ok (.getfield 207, 3) := by decide +kernel
theorem dX11_strike_66 : decode cX11_strike 66 = .ok (.if_icmp .ge 18, 3) := by decide +kernel
theorem dX11_strike_69 : decode cX11_strike 69 = .ok (.aload_n 2, 1) := by decide +kernel
theorem dX11_strike_70 : decode cX11_strike 70 = .ok (.iload_n 3, 1) := by decide +kernel
theorem dX11_strike_71 : decode cX11_strike 71 = .ok (.aload_n 0, 1) := by decide +kernel
theorem dX11_strike_72 : decode cX11_strike 72 = .ok (.getfield 68, 3) := by decide +kernel
theorem dX11_strike_75 : decode cX11_strike 75 = .ok (.iload_n 3, 1) := by decide +kernel
theorem dX11_strike_76 : decode cX11_strike 76 = .ok (.iaload, 1) := by decide +kernel
theorem dX11_strike_77 : decode cX11_strike 77 = .ok (.iastore, 1) := by decide +kernel
theorem dX11_strike_78 : decode cX11_strike 78 = .ok (.iinc 3 1, 3) := by decide +kernel
theorem dX11_strike_81 : decode cX11_strike 81 = .ok (.goto (-20), 3) := by decide +kernel
theorem dX11_strike_84 : decode cX11_strike 84 = .ok (.aload_n 0, 1) := by decide +kernel
theorem dX11_strike_85 : decode cX11_strike 85 = .ok (.aload_n 2, 1) := by decide +kernel
theorem dX11_strike_86 : decode cX11_strike 86 = .ok (.putfield 68, 3) := by decide +kernel
theorem dX11_strike_89 : decode cX11_strike 89 = .ok (.aload_n 0, 1) := by decide +kernel
theorem dX11_strike_90 : decode cX11_strike 90 = .ok (.getfield 68, 3) := by decide +kernel
theorem dX11_strike_93 : decode cX11_strike 93 = .ok (.aload_n 0, 1) := by decide +kernel
theorem dX11_strike_94 : decode cX11_strike 94 = .ok (.getfield 207, 3) := by decide +kernel
theorem dX11_strike_97 : decode cX11_strike 97 = .ok (.aload_n 0, 1) := by decide +kernel
theorem dX11_strike_98 : decode cX11_strike 98 = .ok (.getfield 120, 3) := by decide +kernel
theorem dX11_strike_101 : decode cX11_strike 101 = .ok (.iastore, 1) := by decide +kernel
theorem dX11_strike_102 : decode cX11_strike 102 = .ok (.aload_n 0, 1) := by decide +kernel
theorem dX11_strike_103 : decode cX11_strike 103 = .ok (.dup, 1) := by decide +kernel
theorem dX11_strike_104 : decode cX11_strike 104 = .ok (.getfield 207, 3) := by decide +kernel
theorem dX11_strike_107 : decode cX11_strike 107 = .ok (.iconst 1, 1) := by decide +kernel
theorem dX11_strike_108 : decode cX11_strike 108 = .ok (.iadd, 1) := by decide +kernel
theorem dX11_strike_109 : decode cX11_strike 109 = .ok (.putfield 207, 3) := by decide +kernel
theorem dX11_strike_112 : decode cX11_strike 112 = .ok (.aload_n 0, 1) := by decide +kernel
theorem dX11_strike_113 : decode cX11_strike 113 = .ok (.invokevirtual 212, 3) := by decide +kernel
theorem dX11_strike_116 : decode cX11_strike 116 = .ok (.ireturn, 1) := by decide +kernel
theorem dX11_riskOfAll_0 : decode cX11_riskOfAll 0 = .ok (.iconst 0, 1) := by decide +kernel
theorem dX11_riskOfAll_1 : decode cX11_riskOfAll 1 = .ok (.istore_n 1, 1) := by decide +kernel
theorem dX11_riskOfAll_2 : decode cX11_riskOfAll 2 = .ok (.iconst 0, 1) := by decide +kernel
theorem dX11_riskOfAll_3 : decode cX11_riskOfAll 3 = .ok (.istore_n 2, 1) := by decide +kernel
theorem dX11_riskOfAll_4 : decode cX11_riskOfAll 4 = .ok (.iload_n 2, 1) := by decide +kernel
theorem dX11_riskOfAll_5 : decode cX11_riskOfAll 5 = .ok (.bipush 8, 2) := by decide +kernel
theorem dX11_riskOfAll_7 : decode cX11_riskOfAll 7 = .ok (.if_icmp .ge 35, 3) := by decide +kernel
theorem dX11_riskOfAll_10 : decode cX11_riskOfAll 10 = .ok (.iload_n 1, 1) := by decide +kernel
theorem dX11_riskOfAll_11 : decode cX11_riskOfAll 11 = .ok (.aload_n 0, 1) := by decide +kernel
theorem dX11_riskOfAll_12 : decode cX11_riskOfAll 12 = .ok (.getfield 71, 3) := by decide +kernel
theorem dX11_riskOfAll_15 : decode cX11_riskOfAll 15 = .ok (.iload_n 2, 1) := by decide +kernel
theorem dX11_riskOfAll_16 : decode cX11_riskOfAll 16 = .ok (.iaload, 1) := by decide +kernel
theorem dX11_riskOfAll_17 : decode cX11_riskOfAll 17 = .ok (.iconst 0, 1) := by decide +kernel
theorem dX11_riskOfAll_18 : decode cX11_riskOfAll 18 = .ok (.bipush 100, 2) := by decide +kernel
theorem dX11_riskOfAll_20 : decode cX11_riskOfAll 20 = .ok (.bipush 10, 2) := by decide +kernel
theorem dX11_riskOfAll_22 : decode cX11_riskOfAll 22 = .ok (.aload_n 0, 1) := by decide +kernel
theorem dX11_riskOfAll_23 : decode cX11_riskOfAll 23 = .ok (.getfield 74, 3) := by decide +kernel
theorem dX11_riskOfAll_26 : decode cX11_riskOfAll 26 = .ok (.iload_n 2, 1) := by decide +kernel
theorem dX11_riskOfAll_27 : decode cX11_riskOfAll 27 = .ok (.iaload, 1) := by decide +kernel
theorem dX11_riskOfAll_28 : decode cX11_riskOfAll 28 = .ok (.imul, 1) := by decide +kernel
theorem dX11_riskOfAll_29 : decode cX11_riskOfAll 29 = .ok (.isub, 1) := by decide +kernel
theorem dX11_riskOfAll_30 : decode cX11_riskOfAll 30 = .ok (.invokestatic 187, 3) := by decide +kernel
theorem dX11_riskOfAll_33 : decode cX11_riskOfAll 33 = .ok (.imul, 1) := by decide +kernel
theorem dX11_riskOfAll_34 : decode cX11_riskOfAll 34 = .ok (.iadd, 1) := by decide +kernel
theorem dX11_riskOfAll_35 : decode cX11_riskOfAll 35 = .ok (.istore_n 1, 1) := by decide +kernel
theorem dX11_riskOfAll_36 : decode cX11_riskOfAll 36 = .ok (.iinc 2 1, 3) := by decide +kernel
theorem dX11_riskOfAll_39 : decode cX11_riskOfAll 39 = .ok (.goto (-35), 3) := by decide +kernel
theorem dX11_riskOfAll_42 : decode cX11_riskOfAll 42 = .ok (.iload_n 1, 1) := by decide +kernel
theorem dX11_riskOfAll_43 : decode cX11_riskOfAll 43 = .ok (.ireturn, 1) := by decide +kernel
theorem dX11_boat_0 : decode cX11_boat 0 = .ok (.aload_n 0, 1) := by decide +kernel
theorem dX11_boat_1 : decode cX11_boat 1 = .ok (.iconst 0, 1) := by decide +kernel
theorem dX11_boat_2 : decode cX11_boat 2 = .ok (.putfield 117, 3) := by decide +kernel
theorem dX11_boat_5 : decode cX11_boat 5 = .ok (.aload_n 0, 1) := by decide +kernel
theorem dX11_boat_6 : decode cX11_boat 6 = .ok (.iload_n 1, 1) := by decide +kernel
theorem dX11_boat_7 : decode cX11_boat 7 = .ok (.i2l, 1) := by decide +kernel
theorem dX11_boat_8 : decode cX11_boat 8 = .ok (.lconst 0, 1) := by decide +kernel
theorem dX11_boat_9 : decode cX11_boat 9 = .ok (.ldc2_w 216, 3) := by decide +kernel
theorem dX11_boat_12 : decode cX11_boat 12 = .ok (.invokestatic 132, 3) := by decide +kernel
theorem dX11_boat_15 : decode cX11_boat 15 = .ok (.ifCond .eq 27, 3) := by decide +kernel
theorem dX11_boat_18 : decode cX11_boat 18 = .ok (.iload_n 2, 1) := by decide +kernel
theorem dX11_boat_19 : decode cX11_boat 19 = .ok (.i2l, 1) := by decide +kernel
theorem dX11_boat_20 : decode cX11_boat 20 = .ok (.lconst 0, 1) := by decide +kernel
theorem dX11_boat_21 : decode cX11_boat 21 = .ok (.ldc2_w 218, 3) := by decide +kernel
theorem dX11_boat_24 : decode cX11_boat 24 = .ok (.invokestatic 132, 3) := by decide +kernel
theorem dX11_boat_27 : decode cX11_boat 27 = .ok (.ifCond .eq 15, 3) := by decide +kernel
theorem dX11_boat_30 : decode cX11_boat 30 = .ok (.iload_n 3, 1) := by decide +kernel
theorem dX11_boat_31 : decode cX11_boat 31 = .ok (.i2l, 1) := by decide +kernel
theorem dX11_boat_32 : decode cX11_boat 32 = .ok (.lconst 0, 1) := by decide +kernel
theorem dX11_boat_33 : decode cX11_boat 33 = .ok (.ldc2_w 210, 3) := by decide +kernel
theorem dX11_boat_36 : decode cX11_boat 36 = .ok (.invokestatic 132, 3) := by decide +kernel
theorem dX11_boat_39 : decode cX11_boat 39 = .ok (.ifCond .ne 7, 3) := by decide +kernel
theorem dX11_boat_42 : decode cX11_boat 42 = .ok (.iconst 1, 1) := by decide +kernel
theorem dX11_boat_43 : decode cX11_boat 43 = .ok (.goto 4, 3) := by decide +kernel
theorem dX11_boat_46 : decode cX11_boat 46 = .ok (.iconst 0, 1) := by decide +kernel
theorem dX11_boat_47 : decode cX11_boat 47 = .ok (.iconst 1, 1) := by decide +kernel
theorem dX11_boat_48 : decode cX11_boat 48 = .ok (.invokevirtual 146, 3) := by decide +kernel
theorem dX11_boat_51 : decode cX11_boat 51 = .ok (.ifCond .eq 5, 3) := by decide +kernel
theorem dX11_boat_54 : decode cX11_boat 54 = .ok (.iconst 0, 1) := by decide +kernel
theorem dX11_boat_55 : decode cX11_boat 55 = .ok (.ireturn, 1) := by decide +kernel
theorem dX11_boat_56 : decode cX11_boat 56 = .ok (.aload_n 0, 1) := by decide +kernel
theorem dX11_boat_57 : decode cX11_boat 57 = .ok (.getfield 71, 3) := by decide +kernel
theorem dX11_boat_60 : decode cX11_boat 60 = .ok (.iload_n 1, 1) := by decide +kernel
theorem dX11_boat_61 : decode cX11_boat 61 = .ok (.iload_n 2, 1) := by decide +kernel
theorem dX11_boat_62 : decode cX11_boat 62 = .ok (.iastore, 1) := by decide +kernel
theorem dX11_boat_63 : decode cX11_boat 63 = .ok (.aload_n 0, 1) := by decide +kernel
theorem dX11_boat_64 : decode cX11_boat 64 = .ok (.getfield 74, 3) := by decide +kernel
theorem dX11_boat_67 : decode cX11_boat 67 = .ok (.iload_n 1, 1) := by decide +kernel
theorem dX11_boat_68 : decode cX11_boat 68 = .ok (.iload_n 3, 1) := by decide +kernel
theorem dX11_boat_69 : decode cX11_boat 69 = .ok (.iastore, 1) := by decide +kernel
theorem dX11_boat_70 : decode cX11_boat 70 = .ok (.aload_n 0, 1) := by decide +kernel
theorem dX11_boat_71 : decode cX11_boat 71 = .ok (.invokevirtual 220, 3) := by decide +kernel
theorem dX11_boat_74 : decode cX11_boat 74 = .ok (.ireturn, 1) := by decide +kernel
theorem dX11_addRule_0 : decode cX11_addRule 0 = .ok (.aload_n 0, 1) := by decide +kernel
theorem dX11_addRule_1 : decode cX11_addRule 1 = .ok (.iconst 0, 1) := by decide +kernel
theorem dX11_addRule_2 : decode cX11_addRule 2 = .ok (.putfield 117, 3) := by decide +kernel
theorem dX11_addRule_5 : decode cX11_addRule 5 = .ok (.ldc 223, 2) := by decide +kernel
theorem dX11_addRule_7 : decode cX11_addRule 7 = .ok (.iload_n 1, 1) := by decide +kernel
theorem dX11_addRule_8 : decode cX11_addRule 8 = .ok (.invokevirtual 225, 3) := by decide +kernel
theorem dX11_addRule_11 : decode cX11_addRule 11 = .ok (.ifCond .lt 7, 3) := by decide +kernel
theorem dX11_addRule_14 : decode cX11_addRule 14 = .ok (.iconst 1, 1) := by decide +kernel
theorem dX11_addRule_15 : decode cX11_addRule 15 = .ok (.goto 4, 3) := by decide +kernel
theorem dX11_addRule_18 : decode cX11_addRule 18 = .ok (.iconst 0, 1) := by decide +kernel
theorem dX11_addRule_19 : decode cX11_addRule 19 = .ok (.istore 6, 2) := by decide +kernel
theorem dX11_addRule_21 : decode cX11_addRule 21 = .ok (.iload_n 1, 1) := by decide +kernel
theorem dX11_addRule_22 : decode cX11_addRule 22 = .ok (.bipush 116, 2) := by decide +kernel
theorem dX11_addRule_24 : decode cX11_addRule 24 = .ok (.if_icmp .eq 15, 3) := by decide +kernel
theorem dX11_addRule_27 : decode cX11_addRule 27 = .ok (.iload_n 1, 1) := by decide +kernel
theorem dX11_addRule_28 : decode cX11_addRule 28 = .ok (.bipush 115, 2) := by decide +kernel
theorem dX11_addRule_30 : decode cX11_addRule 30 = .ok (.if_icmp .eq 9, 3) := by decide +kernel
theorem dX11_addRule_33 : decode cX11_addRule 33 = .ok (.iload_n 1, 1) := by decide +kernel
theorem dX11_addRule_34 : decode cX11_addRule 34 = .ok (.bipush 103, 2) := by decide +kernel
theorem dX11_addRule_36 : decode cX11_addRule 36 = .ok (.if_icmp .ne 27, 3) := by decide +kernel
theorem dX11_addRule_39 : decode cX11_addRule 39 = .ok (.iload_n 2, 1) := by decide +kernel
theorem dX11_addRule_40 : decode cX11_addRule 40 = .ok (.i2l, 1) := by decide +kernel
theorem dX11_addRule_41 : decode cX11_addRule 41 = .ok (.lconst 0, 1) := by decide +kernel
theorem dX11_addRule_42 : decode cX11_addRule 42 = .ok (.iload_n 1, 1) := by decide +kernel
theorem dX11_addRule_43 : decode cX11_addRule 43 = .ok (.bipush 103, 2) := by decide +kernel
theorem dX11_addRule_45 : decode cX11_addRule 45 = .ok (.if_icmp .ne 9, 3) := by decide +kernel
theorem dX11_addRule_48 : decode cX11_addRule 48 = .ok (.ldc2_w 230, 3) := by decide +kernel
theorem dX11_addRule_51 : decode cX11_addRule 51 = .ok (.goto 6, 3) := by decide +kernel
theorem dX11_addRule_54 : decode cX11_addRule 54 = .ok (.ldc2_w 130, 3) := by decide +kernel
theorem dX11_addRule_57 : decode cX11_addRule 57 = .ok (.invokestatic 132, 3) := by decide +kernel
theorem dX11_addRule_60 : decode cX11_addRule 60 = .ok (.ifCond .eq 7, 3) := by decide +kernel
theorem dX11_addRule_63 : decode cX11_addRule 63 = .ok (.iconst 1, 1) := by decide +kernel
theorem dX11_addRule_64 : decode cX11_addRule 64 = .ok (.goto 4, 3) := by decide +kernel
theorem dX11_addRule_67 : decode cX11_addRule 67 = .ok (.iconst 0, 1) := by decide +kernel
theorem dX11_addRule_68 : decode cX11_addRule 68 = .ok (.istore 7, 2) := by decide +kernel
theorem dX11_addRule_70 : decode cX11_addRule 70 = .ok (.aload_n 0, 1) := by decide +kernel
theorem dX11_addRule_71 : decode cX11_addRule 71 = .ok (.iload 6, 2) := by decide +kernel
theorem dX11_addRule_73 : decode cX11_addRule 73 = .ok (.ifCond .eq 27, 3) := by decide +kernel
theorem dX11_addRule_76 : decode cX11_addRule 76 = .ok (.iload 7, 2) := by decide +kernel
theorem dX11_addRule_78 : decode cX11_addRule 78 = .ok (.ifCond .eq 22, 3) := by decide +kernel
theorem dX11_addRule_81 : decode cX11_addRule 81 = .ok (.iload_n 3, 1) := by decide +kernel
theorem dX11_addRule_82 : decode cX11_addRule 82 = .ok (.iload 4, 2) := by decide +kernel
theorem dX11_addRule_84 : decode cX11_addRule 84 = .ok (.if_icmp .gt 16, 3) := by decide +kernel
theorem dX11_addRule_87 : decode cX11_addRule 87 = .ok (.iload 5, 2) := by decide +kernel
theorem dX11_addRule_89 : decode cX11_addRule 89 = .ok (.i2l, 1) := by decide +kernel
theorem dX11_addRule_90 : decode cX11_addRule 90 = .ok (.lconst 0, 1) := by decide +kernel
theorem dX11_addRule_91 : decode cX11_addRule 91 = .ok (.ldc2_w 160, 3) := by decide +kernel
theorem dX11_addRule_94 : decode cX11_addRule 94 = .ok (.invokestatic 132, 3) := by decide +kernel
theorem dX11_addRule_97 : decode cX11_addRule 97 = .ok (.ifCond .ne 7, 3) := by decide +kernel
theorem dX11_addRule_100 : decode cX11_addRule 100 = .ok (.iconst 1, 1) := by decide +kernel
theorem dX11_addRule_101 : decode cX11_addRule 101 = .ok (.goto 4, 3) := by decide +kernel
theorem dX11_addRule_104 : decode cX11_addRule 104 = .ok (.iconst 0, 1) := by decide +kernel
theorem dX11_addRule_105 : decode cX11_addRule 105 = .ok (.iconst 1, 1) := by decide +kernel
theorem dX11_addRule_106 : decode cX11_addRule 106 = .ok (.invokevirtual 146, 3) := by decide +kernel
theorem dX11_addRule_109 : decode cX11_addRule 109 = .ok (.ifCond .ne 25, 3) := by decide +kernel
theorem dX11_addRule_112 : decode cX11_addRule 112 = .ok (.aload_n 0, 1) := by decide +kernel
theorem dX11_addRule_113 : decode cX11_addRule 113 = .ok (.aload_n 0, 1) := by decide +kernel
theorem dX11_addRule_114 : decode cX11_addRule 114 = .ok (.getfield 232, 3) := by decide +kernel
theorem dX11_addRule_117 : decode cX11_addRule 117 = .ok (.bipush 12, 2) := by decide +kernel
theorem dX11_addRule_119 : decode cX11_addRule 119 = .ok (.if_icmp .ne 7, 3) := by decide +kernel
theorem dX11_addRule_122 : decode cX11_addRule 122 = .ok (.iconst 1, 1) := by decide +kernel
theorem dX11_addRule_123 : decode cX11_addRule 123 = .ok (.goto 4, 3) := by decide +kernel
theorem dX11_addRule_126 : decode cX11_addRule 126 = .ok (.iconst 0, 1) := by decide +kernel
theorem dX11_addRule_127 : decode cX11_addRule 127 = .ok (.iconst 2, 1) := by decide +kernel
theorem dX11_addRule_128 : decode cX11_addRule 128 = .ok (.invokevirtual 146, 3) := by decide +kernel
theorem dX11_addRule_131 : decode cX11_addRule 131 = .ok (.ifCond .eq 5, 3) := by decide +kernel
theorem dX11_addRule_134 : decode cX11_addRule 134 = .ok (.iconst 0, 1) := by decide +kernel
theorem dX11_addRule_135 : decode cX11_addRule 135 = .ok (.ireturn, 1) := by decide +kernel
theorem dX11_addRule_136 : decode cX11_addRule 136 = .ok (.aload_n 0, 1) := by decide +kernel
theorem dX11_addRule_137 : decode cX11_addRule 137 = .ok (.getfield 83, 3) := by decide +kernel
theorem dX11_addRule_140 : decode cX11_addRule 140 = .ok (.aload_n 0, 1) := by decide +kernel
theorem dX11_addRule_141 : decode cX11_addRule 141 = .ok (.getfield 232, 3) := by decide +kernel
theorem dX11_addRule_144 : decode cX11_addRule 144 = .ok (.iload_n 1, 1) := by decide +kernel
theorem dX11_addRule_145 : decode cX11_addRule 145 = .ok (.castore, 1) := by decide +kernel
theorem dX11_addRule_146 : decode cX11_addRule 146 = .ok (.aload_n 0, 1) := by decide +kernel
theorem dX11_addRule_147 : decode cX11_addRule 147 = .ok (.getfield 86, 3) := by decide +kernel
theorem dX11_addRule_150 : decode cX11_addRule 150 = .ok (.aload_n 0, 1) := by decide +kernel
theorem dX11_addRule_151 : decode cX11_addRule 151 = .ok (.getfield 232, 3) := by decide +kernel
theorem dX11_addRule_154 : decode cX11_addRule 154 = .ok (.iload_n 2, 1) := by decide +kernel
theorem dX11_addRule_155 : decode cX11_addRule 155 = .ok (.iastore, 1) := by decide +kernel
theorem dX11_addRule_156 : decode cX11_addRule 156 = .ok (.aload_n 0, 1) := by decide +kernel
theorem dX11_addRule_157 : decode cX11_addRule 157 = .ok (.getfield 89, 3) := by decide +kernel
theorem dX11_addRule_160 : decode cX11_addRule 160 = .ok (.aload_n 0, 1) := by decide +kernel
theorem dX11_addRule_161 : decode cX11_addRule 161 = .ok (.getfield 232, 3) := by decide +kernel
theorem dX11_addRule_164 : decode cX11_addRule 164 = .ok (.iload_n 3, 1) := by decide +kernel
theorem dX11_addRule_165 : decode cX11_addRule 165 = .ok (.iastore, 1) := by decide +kernel
theorem dX11_addRule_166 : decode cX11_addRule 166 = .ok (.aload_n 0, 1) := by decide +kernel
theorem dX11_addRule_167 : decode cX11_addRule 167 = .ok (.getfield 92, 3) := by decide +kernel
theorem dX11_addRule_170 : decode cX11_addRule 170 = .ok (.aload_n 0, 1) := by decide +kernel
theorem dX11_addRule_171 : decode cX11_addRule 171 = .ok (.getfield 232, 3) := by decide +kernel
theorem dX11_addRule_174 : decode cX11_addRule 174 = .ok (.iload 4, 2) := by decide +kernel
theorem dX11_addRule_176 : decode cX11_addRule 176 = .ok (.iastore, 1) := by decide +kernel
theorem dX11_addRule_177 : decode cX11_addRule 177 = .ok (.aload_n 0, 1) := by decide +kernel
theorem dX11_addRule_178 : decode cX11_addRule 178 = .ok (.getfield 95, 3) := by decide +kernel
theorem dX11_addRule_181 : decode cX11_addRule 181 = .ok (.aload_n 0, 1) := by decide +kernel
theorem dX11_addRule_182 : decode cX11_addRule 182 = .ok (.getfield 232, 3) := by decide +kernel
theorem dX11_addRule_185 : decode cX11_addRule 185 = .ok (.iload 5, 2) := by decide +kernel
theorem dX11_addRule_187 : decode cX11_addRule 187 = .ok (.iastore, 1) := by decide +kernel
theorem dX11_addRule_188 : decode cX11_addRule 188 = .ok (.aload_n 0, 1) := by decide +kernel
theorem dX11_addRule_189 : decode cX11_addRule 189 = .ok (.dup, 1) := by decide +kernel
theorem dX11_addRule_190 : decode cX11_addRule 190 = .ok (.getfield 232, 3) := by decide +kernel
theorem dX11_addRule_193 : decode cX11_addRule 193 = .ok (.iconst 1, 1) := by decide +kernel
theorem dX11_addRule_194 : decode cX11_addRule 194 = .ok (.iadd, 1) := by decide +kernel
theorem dX11_addRule_195 : decode cX11_addRule 195 = .ok (.putfield 232, 3) := by decide +kernel
theorem dX11_addRule_198 : decode cX11_addRule 198 = .ok (.aload_n 0, 1) := by decide +kernel
theorem dX11_addRule_199 : decode cX11_addRule 199 = .ok (.getfield 232, 3) := by decide +kernel
theorem dX11_addRule_202 : decode cX11_addRule 202 = .ok (.iconst 1, 1) := by decide +kernel
theorem dX11_addRule_203 : decode cX11_addRule 203 = .ok (.isub, 1) := by decide +kernel
theorem dX11_addRule_204 : decode cX11_addRule 204 = .ok (.ireturn, 1) := by decide +kernel
theorem dX11_noRule_0 : decode cX11_noRule 0 = .ok (.iload_n 1, 1) := by decide +kernel
theorem dX11_noRule_1 : decode cX11_noRule 1 = .ok (.i2l, 1) := by decide +kernel
theorem dX11_noRule_2 : decode cX11_noRule 2 = .ok (.lconst 0, 1) := by decide +kernel
theorem dX11_noRule_3 : decode cX11_noRule 3 = .ok (.aload_n 0, 1) := by decide +kernel
theorem dX11_noRule_4 : decode cX11_noRule 4 = .ok (.getfield 232, 3) := by decide +kernel
theorem dX11_noRule_7 : decode cX11_noRule 7 = .ok (.iconst 1, 1) := by decide +kernel
theorem dX11_noRule_8 : decode cX11_noRule 8 = .ok (.isub, 1) := by decide +kernel
theorem dX11_noRule_9 : decode cX11_noRule 9 = .ok (.i2l, 1) := by decide +kernel
theorem dX11_noRule_10 : decode cX11_noRule 10 = .ok (.invokestatic 132, 3) := by decide +kernel
theorem dX11_noRule_13 : decode cX11_noRule 13 = .ok (.ifCond .ne 7, 3) := by decide +kernel
theorem dX11_noRule_16 : decode cX11_noRule 16 = .ok (.iconst 1, 1) := by decide +kernel
theorem dX11_noRule_17 : decode cX11_noRule 17 = .ok (.goto 4, 3) := by decide +kernel
theorem dX11_noRule_20 : decode cX11_noRule 20 = .ok (.iconst 0, 1) := by decide +kernel
theorem dX11_noRule_21 : decode cX11_noRule 21 = .ok (.ireturn, 1) := by decide +kernel
theorem dX11_noConsole_0 : decode cX11_noConsole 0 = .ok (.iload_n 0, 1) := by decide +kernel
theorem dX11_noConsole_1 : decode cX11_noConsole 1 = .ok (.i2l, 1) := by decide +kernel
theorem dX11_noConsole_2 : decode cX11_noConsole 2 = .ok (.lconst 0, 1) := by decide +kernel
theorem dX11_noConsole_3 : decode cX11_noConsole 3 = .ok (.ldc2_w 230, 3) := by decide +kernel
theorem dX11_noConsole_6 : decode cX11_noConsole 6 = .ok (.invokestatic 132, 3) := by decide +kernel
theorem dX11_noConsole_9 : decode cX11_noConsole 9 = .ok (.ifCond .ne 7, 3) := by decide +kernel
theorem dX11_noConsole_12 : decode cX11_noConsole 12 = .ok (.iconst 1, 1) := by decide +kernel
theorem dX11_noConsole_13 : decode cX11_noConsole 13 = .ok (.goto 4, 3) := by decide +kernel
theorem dX11_noConsole_16 : decode cX11_noConsole 16 = .ok (.iconst 0, 1) := by decide +kernel
theorem dX11_noConsole_17 : decode cX11_noConsole 17 = .ok (.ireturn, 1) := by decide +kernel
theorem dX11_mayWaive_0 : decode cX11_mayWaive 0 = .ok (.aload_n 0, 1) := by decide +kernel
theorem dX11_mayWaive_1 : decode cX11_mayWaive 1 = .ok (.iconst 0, 1) := by decide +kernel
theorem dX11_mayWaive_2 : decode cX11_mayWaive 2 = .ok (.putfield 117, 3) := by decide +kernel
theorem dX11_mayWaive_5 : decode cX11_mayWaive 5 = .ok (.aload_n 0, 1) := by decide +kernel
theorem dX11_mayWaive_6 : decode cX11_mayWaive 6 = .ok (.aload_n 0, 1) := by decide +kernel
theorem dX11_mayWaive_7 : decode cX11_mayWaive 7 = .ok (.iload_n 1, 1) := by decide +kernel
theorem dX11_mayWaive_8 : decode cX11_mayWaive 8 = .ok (.invokevirtual 235, 3) := by decide +kernel
theorem dX11_mayWaive_11 : decode cX11_mayWaive 11 = .ok (.iconst 1, 1) := by decide +kernel
theorem dX11_mayWaive_12 : decode cX11_mayWaive 12 = .ok (.invokevirtual 146, 3) := by decide +kernel
theorem dX11_mayWaive_15 : decode cX11_mayWaive 15 = .ok (.ifCond .ne 15, 3) := by decide +kernel
theorem dX11_mayWaive_18 : decode cX11_mayWaive 18 = .ok (.aload_n 0, 1) := by decide +kernel
theorem dX11_mayWaive_19 : decode cX11_mayWaive 19 = .ok (.iload_n 2, 1) := by decide +kernel
theorem dX11_mayWaive_20 : decode cX11_mayWaive 20 = .ok (.invokestatic 238, 3) := by decide +kernel
theorem dX11_mayWaive_23 : decode cX11_mayWaive 23 = .ok (.iconst 2, 1) := by decide +kernel
theorem dX11_mayWaive_24 : decode cX11_mayWaive 24 = .ok (.invokevirtual 146, 3) := by decide +kernel
theorem dX11_mayWaive_27 : decode cX11_mayWaive 27 = .ok (.ifCond .eq 5, 3) := by decide +kernel
theorem dX11_mayWaive_30 : decode cX11_mayWaive 30 = .ok (.iconst 0, 1) := by decide +kernel
theorem dX11_mayWaive_31 : decode cX11_mayWaive 31 = .ok (.ireturn, 1) := by decide +kernel
theorem dX11_mayWaive_32 : decode cX11_mayWaive 32 = .ok (.aload_n 0, 1) := by decide +kernel
theorem dX11_mayWaive_33 : decode cX11_mayWaive 33 = .ok (.getfield 107, 3) := by decide +kernel
theorem dX11_mayWaive_36 : decode cX11_mayWaive 36 = .ok (.bipush 6, 2) := by decide +kernel
theorem dX11_mayWaive_38 : decode cX11_mayWaive 38 = .ok (.iload_n 1, 1) := by decide +kernel
theorem dX11_mayWaive_39 : decode cX11_mayWaive 39 = .ok (.imul, 1) := by decide +kernel
theorem dX11_mayWaive_40 : decode cX11_mayWaive 40 = .ok (.iload_n 2, 1) := by decide +kernel
theorem dX11_mayWaive_41 : decode cX11_mayWaive 41 = .ok (.iadd, 1) := by decide +kernel
theorem dX11_mayWaive_42 : decode cX11_mayWaive 42 = .ok (.baload, 1) := by decide +kernel
theorem dX11_mayWaive_43 : decode cX11_mayWaive 43 = .ok (.istore_n 3, 1) := by decide +kernel
theorem dX11_mayWaive_44 : decode cX11_mayWaive 44 = .ok (.aload_n 0, 1) := by decide +kernel
theorem dX11_mayWaive_45 : decode cX11_mayWaive 45 = .ok (.getfield 107, 3) := by decide +kernel
theorem dX11_mayWaive_48 : decode cX11_mayWaive 48 = .ok (.bipush 6, 2) := by decide +kernel
theorem dX11_mayWaive_50 : decode cX11_mayWaive 50 = .ok (.iload_n 1, 1) := by decide +kernel
theorem dX11_mayWaive_51 : decode cX11_mayWaive 51 = .ok (.imul, 1) := by decide +kernel
theorem dX11_mayWaive_52 : decode cX11_mayWaive 52 = .ok (.iload_n 2, 1) := by decide +kernel
theorem dX11_mayWaive_53 : decode cX11_mayWaive 53 = .ok (.iadd, 1) := by decide +kernel
theorem dX11_mayWaive_54 : decode cX11_mayWaive 54 = .ok (.iconst 1, 1) := by decide +kernel
theorem dX11_mayWaive_55 : decode cX11_mayWaive 55 = .ok (.bastore, 1) := by decide +kernel
theorem dX11_mayWaive_56 : decode cX11_mayWaive 56 = .ok (.iload_n 3, 1) := by decide +kernel
theorem dX11_mayWaive_57 : decode cX11_mayWaive 57 = .ok (.ifCond .ne 7, 3) := by decide +kernel
theorem dX11_mayWaive_60 : decode cX11_mayWaive 60 = .ok (.iconst 1, 1) := by decide +kernel
theorem dX11_mayWaive_61 : decode cX11_mayWaive 61 = .ok (.goto 4, 3) := by decide +kernel
theorem dX11_mayWaive_64 : decode cX11_mayWaive 64 = .ok (.iconst 0, 1) := by decide +kernel
theorem dX11_mayWaive_65 : decode cX11_mayWaive 65 = .ok (.ireturn, 1) := by decide +kernel
theorem dX11_isWaivedNow_0 : decode cX11_isWaivedNow 0 = .ok (.aload_n 0, 1) := by decide +kernel
theorem dX11_isWaivedNow_1 : decode cX11_isWaivedNow 1 = .ok (.getfield 101, 3) := by decide +kernel
theorem dX11_isWaivedNow_4 : decode cX11_isWaivedNow 4 = .ok (.iload_n 1, 1) := by decide +kernel
theorem dX11_isWaivedNow_5 : decode cX11_isWaivedNow 5 = .ok (.baload, 1) := by decide +kernel
theorem dX11_isWaivedNow_6 : decode cX11_isWaivedNow 6 = .ok (.ifCond .eq 27, 3) := by decide +kernel
theorem dX11_isWaivedNow_9 : decode cX11_isWaivedNow 9 = .ok (.aload_n 0, 1) := by decide +kernel
theorem dX11_isWaivedNow_10 : decode cX11_isWaivedNow 10 = .ok (.getfield 241, 3) := by decide +kernel
theorem dX11_isWaivedNow_13 : decode cX11_isWaivedNow 13 = .ok (.ifCond .eq 20, 3) := by decide +kernel
theorem dX11_isWaivedNow_16 : decode cX11_isWaivedNow 16 = .ok (.aload_n 0, 1) := by decide +kernel
theorem dX11_isWaivedNow_17 : decode cX11_isWaivedNow 17 = .ok (.getfield 245, 3) := by decide +kernel
theorem dX11_isWaivedNow_20 : decode cX11_isWaivedNow 20 = .ok (.aload_n 0, 1) := by decide +kernel
theorem dX11_isWaivedNow_21 : decode cX11_isWaivedNow 21 = .ok (.getfield 104, 3) := by decide +kernel
theorem dX11_isWaivedNow_24 : decode cX11_isWaivedNow 24 = .ok (.iload_n 1, 1) := by decide +kernel
theorem dX11_isWaivedNow_25 : decode cX11_isWaivedNow 25 = .ok (.iaload, 1) := by decide +kernel
theorem dX11_isWaivedNow_26 : decode cX11_isWaivedNow 26 = .ok (.if_icmp .gt 7, 3) := by decide +kernel
theorem dX11_isWaivedNow_29 : decode cX11_isWaivedNow 29 = .ok (.iconst 1, 1) := by decide +kernel
theorem dX11_isWaivedNow_30 : decode cX11_isWaivedNow 30 = .ok (.goto 4, 3) := by decide +kernel
theorem dX11_isWaivedNow_33 : decode cX11_isWaivedNow 33 = .ok (.iconst 0, 1) := by decide +kernel
theorem dX11_isWaivedNow_34 : decode cX11_isWaivedNow 34 = .ok (.ireturn, 1) := by decide +kernel
theorem dX11_waive_0 : decode cX11_waive 0 = .ok (.aload_n 0, 1) := by decide +kernel
theorem dX11_waive_1 : decode cX11_waive 1 = .ok (.iconst 0, 1) := by decide +kernel
theorem dX11_waive_2 : decode cX11_waive 2 = .ok (.putfield 117, 3) := by decide +kernel
theorem dX11_waive_5 : decode cX11_waive 5 = .ok (.aload_n 0, 1) := by decide +kernel
theorem dX11_waive_6 : decode cX11_waive 6 = .ok (.aload_n 0, 1) := by decide +kernel
theorem dX11_waive_7 : decode cX11_waive 7 = .ok (.iload_n 1, 1) := by decide +kernel
theorem dX11_waive_8 : decode cX11_waive 8 = .ok (.invokevirtual 235, 3) := by decide +kernel
theorem dX11_waive_11 : decode cX11_waive 11 = .ok (.iconst 1, 1) := by decide +kernel
theorem dX11_waive_12 : decode cX11_waive 12 = .ok (.invokevirtual 146, 3) := by decide +kernel
theorem dX11_waive_15 : decode cX11_waive 15 = .ok (.ifCond .ne 62, 3) := by decide +kernel
theorem dX11_waive_18 : decode cX11_waive 18 = .ok (.aload_n 0, 1) := by decide +kernel
theorem dX11_waive_19 : decode cX11_waive 19 = .ok (.iload_n 2, 1) := by decide +kernel
theorem dX11_waive_20 : decode cX11_waive 20 = .ok (.invokestatic 238, 3) := by decide +kernel
theorem dX11_waive_23 : decode cX11_waive 23 = .ok (.ifCond .ne 15, 3) := by decide +kernel
theorem dX11_waive_26 : decode cX11_waive 26 = .ok (.iload_n 3, 1) := by decide +kernel
theorem dX11_waive_27 : decode cX11_waive 27 = .ok (.i2l, 1) := by decide +kernel
theorem dX11_waive_28 : decode cX11_waive 28 = .ok (.ldc2_w 156, 3) := by decide +kernel
theorem dX11_waive_31 : decode cX11_waive 31 = .ok (.lconst 0, 1) := by decide +kernel
theorem dX11_waive_32 : decode cX11_waive 32 = .ok (.invokestatic 132, 3) := by decide +kernel
theorem dX11_waive_35 : decode cX11_waive 35 = .ok (.ifCond .ne 7, 3) := by decide +kernel
theorem dX11_waive_38 : decode cX11_waive 38 = .ok (.iconst 1, 1) := by decide +kernel
theorem dX11_waive_39 : decode cX11_waive 39 = .ok (.goto 4, 3) := by decide +kernel
theorem dX11_waive_42 : decode cX11_waive 42 = .ok (.iconst 0, 1) := by decide +kernel
theorem dX11_waive_43 : decode cX11_waive 43 = .ok (.iconst 2, 1) := by decide +kernel
theorem dX11_waive_44 : decode cX11_waive 44 = .ok (.invokevirtual 146, 3) := by decide +kernel
theorem dX11_waive_47 : decode cX11_waive 47 = .ok (.ifCond .ne 30, 3) := by decide +kernel
theorem dX11_waive_50 : decode cX11_waive 50 = .ok (.aload_n 0, 1) := by decide +kernel
theorem dX11_waive_51 : decode cX11_waive 51 = .ok (.aload_n 0, 1) := by decide +kernel
theorem dX11_waive_52 : decode cX11_waive 52 = .ok (.getfield 107, 3) := by decide +kernel
theorem dX11_waive_55 : decode cX11_waive 55 = .ok (.bipush 6, 2) := by decide +kernel
theorem dX11_waive_57 : decode cX11_waive 57 = .ok (.iload_n 1, 1) := by decide +kernel
theorem dX11_waive_58 : decode cX11_waive 58 = .ok (.imul, 1) := by decide +kernel
theorem dX11_waive_59 : decode cX11_waive 59 = .ok (.iload_n 2, 1) := by decide +kernel
theorem dX11_waive_60 : decode cX11_waive 60 = .ok (.iadd, 1) := by decide +kernel
theorem dX11_waive_61 : decode cX11_waive 61 = .ok (.baload, 1) := by decide +kernel
theorem dX11_waive_62 : decode cX11_waive 62 = .ok (.ifCond .ne 7, 3) := by decide +kernel
theorem dX11_waive_65 : decode cX11_waive 65 = .ok (.iconst 1, 1) := by decide +kernel
theorem dX11_waive_66 : decode cX11_waive 66 = .ok (.goto 4, 3) := by decide +kernel
theorem dX11_waive_69 : decode cX11_waive 69 = .ok (.iconst 0, 1) := by decide +kernel
theorem dX11_waive_70 : decode cX11_waive 70 = .ok (.iconst 3, 1) := by decide +kernel
theorem dX11_waive_71 : decode cX11_waive 71 = .ok (.invokevirtual 146, 3) := by decide +kernel
theorem dX11_waive_74 : decode cX11_waive 74 = .ok (.ifCond .eq 5, 3) := by decide +kernel
theorem dX11_waive_77 : decode cX11_waive 77 = .ok (.iconst 0, 1) := by decide +kernel
theorem dX11_waive_78 : decode cX11_waive 78 = .ok (.ireturn, 1) := by decide +kernel
theorem dX11_waive_79 : decode cX11_waive 79 = .ok (.aload_n 0, 1) := by decide +kernel
theorem dX11_waive_80 : decode cX11_waive 80 = .ok (.iload_n 1, 1) := by decide +kernel
theorem dX11_waive_81 : decode cX11_waive 81 = .ok (.invokevirtual 248, 3) := by decide +kernel
theorem dX11_waive_84 : decode cX11_waive 84 = .ok (.istore 4, 2) := by decide +kernel
theorem dX11_waive_86 : decode cX11_waive 86 = .ok (.aload_n 0, 1) := by decide +kernel
theorem dX11_waive_87 : decode cX11_waive 87 = .ok (.getfield 101, 3) := by decide +kernel
theorem dX11_waive_90 : decode cX11_waive 90 = .ok (.iload_n 1, 1) := by decide +kernel
theorem dX11_waive_91 : decode cX11_waive 91 = .ok (.iconst 1, 1) := by decide +kernel
theorem dX11_waive_92 : decode cX11_waive 92 = .ok (.bastore, 1) := by decide +kernel
theorem dX11_waive_93 : decode cX11_waive 93 = .ok (.aload_n 0, 1) := by decide +kernel
theorem dX11_waive_94 : decode cX11_waive 94 = .ok (.getfield 104, 3) := by decide +kernel
theorem dX11_waive_97 : decode cX11_waive 97 = .ok (.iload_n 1, 1) := by decide +kernel
theorem dX11_waive_98 : decode cX11_waive 98 = .ok (.iload_n 3, 1) := by decide +kernel
theorem dX11_waive_99 : decode cX11_waive 99 = .ok (.iastore, 1) := by decide +kernel
theorem dX11_waive_100 : decode cX11_waive 100 = .ok (.iload 4, 2) := by decide +kernel
theorem dX11_waive_102 : decode cX11_waive 102 = .ok (.ireturn, 1) := by decide +kernel
theorem dX11_endWaivers_0 : decode cX11_endWaivers 0 = .ok (.iconst 0, 1) := by decide +kernel
theorem dX11_endWaivers_1 : decode cX11_endWaivers 1 = .ok (.istore_n 1, 1) := by decide +kernel
theorem dX11_endWaivers_2 : decode cX11_endWaivers 2 = .ok (.iload_n 1, 1) := by decide +kernel
theorem dX11_endWaivers_3 : decode cX11_endWaivers 3 = .ok (.bipush 12, 2) := by decide +kernel
theorem dX11_endWaivers_5 : decode cX11_endWaivers 5 = .ok (.if_icmp .ge 16, 3) := by decide +kernel
theorem dX11_endWaivers_8 : decode cX11_endWaivers 8 = .ok (.aload_n 0, 1) := by decide +kernel
theorem dX11_endWaivers_9 : decode cX11_endWaivers 9 = .ok (.getfield 101, 3) := by decide +kernel
theorem dX11_endWaivers_12 : decode cX11_endWaivers 12 = .ok (.iload_n 1, 1) := by decide +kernel
theorem dX11_endWaivers_13 : decode cX11_endWaivers 13 = .ok (.iconst 0, 1) := by decide +kernel
theorem dX11_endWaivers_14 : decode cX11_endWaivers 14 = .ok (.bastore, 1) := by decide +kernel
theorem dX11_endWaivers_15 : decode cX11_endWaivers 15 = .ok (.iinc 1 1, 3) := by decide +kernel
theorem dX11_endWaivers_18 : decode cX11_endWaivers 18 = .ok (.goto (-16), 3) := by decide +kernel
theorem dX11_endWaivers_21 : decode cX11_endWaivers 21 = .ok (.return_, 1) := by decide +kernel
theorem dX11_go_0 : decode cX11_go 0 = .ok (.aload_n 0, 1) := by decide +kernel
theorem dX11_go_1 : decode cX11_go 1 = .ok (.iconst 0, 1) := by decide +kernel
theorem dX11_go_2 : decode cX11_go 2 = .ok (.putfield 117, 3) := by decide +kernel
theorem dX11_go_5 : decode cX11_go 5 = .ok (.aload_n 0, 1) := by decide +kernel
theorem dX11_go_6 : decode cX11_go 6 = .ok (.iload_n 1, 1) := by decide +kernel
theorem dX11_go_7 : decode cX11_go 7 = .ok (.invokestatic 238, 3) := by decide +kernel
theorem dX11_go_10 : decode cX11_go 10 = .ok (.iconst 1, 1) := by decide +kernel
theorem dX11_go_11 : decode cX11_go 11 = .ok (.invokevirtual 146, 3) := by decide +kernel
theorem dX11_go_14 : decode cX11_go 14 = .ok (.ifCond .eq 5, 3) := by decide +kernel
theorem dX11_go_17 : decode cX11_go 17 = .ok (.iconst 0, 1) := by decide +kernel
theorem dX11_go_18 : decode cX11_go 18 = .ok (.ireturn, 1) := by decide +kernel
theorem dX11_go_19 : decode cX11_go 19 = .ok (.aload_n 0, 1) := by decide +kernel
theorem dX11_go_20 : decode cX11_go 20 = .ok (.getfield 77, 3) := by decide +kernel
theorem dX11_go_23 : decode cX11_go 23 = .ok (.iload_n 1, 1) := by decide +kernel
theorem dX11_go_24 : decode cX11_go 24 = .ok (.baload, 1) := by decide +kernel
theorem dX11_go_25 : decode cX11_go 25 = .ok (.istore_n 3, 1) := by decide +kernel
theorem dX11_go_26 : decode cX11_go 26 = .ok (.aload_n 0, 1) := by decide +kernel
theorem dX11_go_27 : decode cX11_go 27 = .ok (.getfield 77, 3) := by decide +kernel
theorem dX11_go_30 : decode cX11_go 30 = .ok (.iload_n 1, 1) := by decide +kernel
theorem dX11_go_31 : decode cX11_go 31 = .ok (.iload_n 2, 1) := by decide +kernel
theorem dX11_go_32 : decode cX11_go 32 = .ok (.bastore, 1) := by decide +kernel
theorem dX11_go_33 : decode cX11_go 33 = .ok (.iload_n 3, 1) := by decide +kernel
theorem dX11_go_34 : decode cX11_go 34 = .ok (.ireturn, 1) := by decide +kernel
theorem dX11_valueOf_0 : decode cX11_valueOf 0 = .ok (.aload_n 0, 1) := by decide +kernel
theorem dX11_valueOf_1 : decode cX11_valueOf 1 = .ok (.getfield 86, 3) := by decide +kernel
theorem dX11_valueOf_4 : decode cX11_valueOf 4 = .ok (.iload_n 1, 1) := by decide +kernel
theorem dX11_valueOf_5 : decode cX11_valueOf 5 = .ok (.iaload, 1) := by decide +kernel
theorem dX11_valueOf_6 : decode cX11_valueOf 6 = .ok (.istore_n 2, 1) := by decide +kernel
theorem dX11_valueOf_7 : decode cX11_valueOf 7 = .ok (.aload_n 0, 1) := by decide +kernel
theorem dX11_valueOf_8 : decode cX11_valueOf 8 = .ok (.getfield 83, 3) := by decide +kernel
theorem dX11_valueOf_11 : decode cX11_valueOf 11 = .ok (.iload_n 1, 1) := by decide +kernel
theorem dX11_valueOf_12 : decode cX11_valueOf 12 = .ok (.caload, 1) := by decide +kernel
theorem dX11_valueOf_13 : decode cX11_valueOf 13 = .ok (.lookupswitch 79 #[(98, 74), (108, 69), (115, 58), (116, 51), (119, 64)], 51) := by decide +kernel
theorem dX11_valueOf_64 : decode cX11_valueOf 64 = .ok (.aload_n 0, 1) := by decide +kernel
theorem dX11_valueOf_65 : decode cX11_valueOf 65 = .ok (.getfield 30, 3) := by decide +kernel
theorem dX11_valueOf_68 : decode cX11_valueOf 68 = .ok (.iload_n 2, 1) := by decide +kernel
theorem dX11_valueOf_69 : decode cX11_valueOf 69 = .ok (.iaload, 1) := by decide +kernel
theorem dX11_valueOf_70 : decode cX11_valueOf 70 = .ok (.ireturn, 1) := by decide +kernel
theorem dX11_valueOf_71 : decode cX11_valueOf 71 = .ok (.aload_n 0, 1) := by decide +kernel
theorem dX11_valueOf_72 : decode cX11_valueOf 72 = .ok (.iload_n 2, 1) := by decide +kernel
theorem dX11_valueOf_73 : decode cX11_valueOf 73 = .ok (.invokevirtual 199, 3) := by decide +kernel
theorem dX11_valueOf_76 : decode cX11_valueOf 76 = .ok (.ireturn, 1) := by decide +kernel
theorem dX11_valueOf_77 : decode cX11_valueOf 77 = .ok (.aload_n 0, 1) := by decide +kernel
theorem dX11_valueOf_78 : decode cX11_valueOf 78 = .ok (.getfield 204, 3) := by decide +kernel
theorem dX11_valueOf_81 : decode cX11_valueOf 81 = .ok (.ireturn, 1) := by decide +kernel
theorem dX11_valueOf_82 : decode cX11_valueOf 82 = .ok (.aload_n 0, 1) := by decide +kernel
theorem dX11_valueOf_83 : decode cX11_valueOf 83 = .ok (.invokevirtual 212, 3) := by decide +kernel
theorem dX11_valueOf_86 : decode cX11_valueOf 86 = .ok (.ireturn, 1) := by decide +kernel
theorem dX11_valueOf_87 : decode cX11_valueOf 87 = .ok (.aload_n 0, 1) := by decide +kernel
theorem dX11_valueOf_88 : decode cX11_valueOf 88 = .ok (.invokevirtual 220, 3) := by decide +kernel
theorem dX11_valueOf_91 : decode cX11_valueOf 91 = .ok (.ireturn, 1) := by decide +kernel
theorem dX11_valueOf_92 : decode cX11_valueOf 92 = .ok (.aload_n 0, 1) := by decide +kernel
theorem dX11_valueOf_93 : decode cX11_valueOf 93 = .ok (.getfield 77, 3) := by decide +kernel
theorem dX11_valueOf_96 : decode cX11_valueOf 96 = .ok (.iload_n 2, 1) := by decide +kernel
theorem dX11_valueOf_97 : decode cX11_valueOf 97 = .ok (.baload, 1) := by decide +kernel
theorem dX11_valueOf_98 : decode cX11_valueOf 98 = .ok (.ifCond .eq 7, 3) := by decide +kernel
theorem dX11_valueOf_101 : decode cX11_valueOf 101 = .ok (.iconst 1, 1) := by decide +kernel
theorem dX11_valueOf_102 : decode cX11_valueOf 102 = .ok (.goto 4, 3) := by decide +kernel
theorem dX11_valueOf_105 : decode cX11_valueOf 105 = .ok (.iconst 0, 1) := by decide +kernel
theorem dX11_valueOf_106 : decode cX11_valueOf 106 = .ok (.ireturn, 1) := by decide +kernel
theorem dX11_value_0 : decode cX11_value 0 = .ok (.aload_n 0, 1) := by decide +kernel
theorem dX11_value_1 : decode cX11_value 1 = .ok (.iconst 0, 1) := by decide +kernel
theorem dX11_value_2 : decode cX11_value 2 = .ok (.putfield 117, 3) := by decide +kernel
theorem dX11_value_5 : decode cX11_value 5 = .ok (.aload_n 0, 1) := by decide +kernel
theorem dX11_value_6 : decode cX11_value 6 = .ok (.aload_n 0, 1) := by decide +kernel
theorem dX11_value_7 : decode cX11_value 7 = .ok (.iload_n 1, 1) := by decide +kernel
theorem dX11_value_8 : decode cX11_value 8 = .ok (.invokevirtual 235, 3) := by decide +kernel
theorem dX11_value_11 : decode cX11_value 11 = .ok (.iconst 1, 1) := by decide +kernel
theorem dX11_value_12 : decode cX11_value 12 = .ok (.invokevirtual 146, 3) := by decide +kernel
theorem dX11_value_15 : decode cX11_value 15 = .ok (.ifCond .eq 7, 3) := by decide +kernel
theorem dX11_value_18 : decode cX11_value 18 = .ok (.iconst 0, 1) := by decide +kernel
theorem dX11_value_19 : decode cX11_value 19 = .ok (.goto 8, 3) := by decide +kernel
theorem dX11_value_22 : decode cX11_value 22 = .ok (.aload_n 0, 1) := by decide +kernel
theorem dX11_value_23 : decode cX11_value 23 = .ok (.iload_n 1, 1) := by decide +kernel
theorem dX11_value_24 : decode cX11_value 24 = .ok (.invokevirtual 251, 3) := by decide +kernel
theorem dX11_value_27 : decode cX11_value 27 = .ok (.ireturn, 1) := by decide +kernel
theorem dX11_holdsFor_0 : decode cX11_holdsFor 0 = .ok (.aload_n 0, 1) := by decide +kernel
theorem dX11_holdsFor_1 : decode cX11_holdsFor 1 = .ok (.iconst 0, 1) := by decide +kernel
theorem dX11_holdsFor_2 : decode cX11_holdsFor 2 = .ok (.putfield 117, 3) := by decide +kernel
theorem dX11_holdsFor_5 : decode cX11_holdsFor 5 = .ok (.aload_n 0, 1) := by decide +kernel
theorem dX11_holdsFor_6 : decode cX11_holdsFor 6 = .ok (.aload_n 0, 1) := by decide +kernel
theorem dX11_holdsFor_7 : decode cX11_holdsFor 7 = .ok (.iload_n 1, 1) := by decide +kernel
theorem dX11_holdsFor_8 : decode cX11_holdsFor 8 = .ok (.invokevirtual 235, 3) := by decide +kernel
theorem dX11_holdsFor_11 : decode cX11_holdsFor 11 = .ok (.iconst 1, 1) := by decide +kernel
theorem dX11_holdsFor_12 : decode cX11_holdsFor 12 = .ok (.invokevirtual 146, 3) := by decide +kernel
theorem dX11_holdsFor_15 : decode cX11_holdsFor 15 = .ok (.ifCond .eq 7, 3) := by decide +kernel
theorem dX11_holdsFor_18 : decode cX11_holdsFor 18 = .ok (.iconst 0, 1) := by decide +kernel
theorem dX11_holdsFor_19 : decode cX11_holdsFor 19 = .ok (.goto 9, 3) := by decide +kernel
theorem dX11_holdsFor_22 : decode cX11_holdsFor 22 = .ok (.aload_n 0, 1) := by decide +kernel
theorem dX11_holdsFor_23 : decode cX11_holdsFor 23 = .ok (.getfield 98, 3) := by decide +kernel
theorem dX11_holdsFor_26 : decode cX11_holdsFor 26 = .ok (.iload_n 1, 1) := by decide +kernel
theorem dX11_holdsFor_27 : decode cX11_holdsFor 27 = .ok (.iaload, 1) := by decide +kernel
theorem dX11_holdsFor_28 : decode cX11_holdsFor 28 = .ok (.ireturn, 1) := by decide +kernel
theorem dX11_holdsNow_0 : decode cX11_holdsNow 0 = .ok (.aload_n 0, 1) := by decide +kernel
theorem dX11_holdsNow_1 : decode cX11_holdsNow 1 = .ok (.iload_n 1, 1) := by decide +kernel
theorem dX11_holdsNow_2 : decode cX11_holdsNow 2 = .ok (.invokevirtual 251, 3) := by decide +kernel
theorem dX11_holdsNow_5 : decode cX11_holdsNow 5 = .ok (.i2l, 1) := by decide +kernel
theorem dX11_holdsNow_6 : decode cX11_holdsNow 6 = .ok (.aload_n 0, 1) := by decide +kernel
theorem dX11_holdsNow_7 : decode cX11_holdsNow 7 = .ok (.getfield 89, 3) := by decide +kernel
theorem dX11_holdsNow_10 : decode cX11_holdsNow 10 = .ok (.iload_n 1, 1) := by decide +kernel
theorem dX11_holdsNow_11 : decode cX11_holdsNow 11 = .ok (.iaload, 1) := by decide +kernel
theorem dX11_holdsNow_12 : decode cX11_holdsNow 12 = .ok (.i2l, 1) := by decide +kernel
theorem dX11_holdsNow_13 : decode cX11_holdsNow 13 = .ok (.aload_n 0, 1) := by decide +kernel
theorem dX11_holdsNow_14 : decode cX11_holdsNow 14 = .ok (.getfield 92, 3) := by decide +kernel
theorem dX11_holdsNow_17 : decode cX11_holdsNow 17 = .ok (.iload_n 1, 1) := by decide +kernel
theorem dX11_holdsNow_18 : decode cX11_holdsNow 18 = .ok (.iaload, 1) := by decide +kernel
theorem dX11_holdsNow_19 : decode cX11_holdsNow 19 = .ok (.i2l, 1) := by decide +kernel
theorem dX11_holdsNow_20 : decode cX11_holdsNow 20 = .ok (.invokestatic 132, 3) := by decide +kernel
theorem dX11_holdsNow_23 : decode cX11_holdsNow 23 = .ok (.ireturn, 1) := by decide +kernel
theorem dX11_isMetNow_0 : decode cX11_isMetNow 0 = .ok (.aload_n 0, 1) := by decide +kernel
theorem dX11_isMetNow_1 : decode cX11_isMetNow 1 = .ok (.iload_n 1, 1) := by decide +kernel
theorem dX11_isMetNow_2 : decode cX11_isMetNow 2 = .ok (.invokevirtual 254, 3) := by decide +kernel
theorem dX11_isMetNow_5 : decode cX11_isMetNow 5 = .ok (.ifCond .eq 18, 3) := by decide +kernel
theorem dX11_isMetNow_8 : decode cX11_isMetNow 8 = .ok (.aload_n 0, 1) := by decide +kernel
theorem dX11_isMetNow_9 : decode cX11_isMetNow 9 = .ok (.getfield 98, 3) := by decide +kernel
theorem dX11_isMetNow_12 : decode cX11_isMetNow 12 = .ok (.iload_n 1, 1) := by decide +kernel
theorem dX11_isMetNow_13 : decode cX11_isMetNow 13 = .ok (.iaload, 1) := by decide +kernel
theorem dX11_isMetNow_14 : decode cX11_isMetNow 14 = .ok (.aload_n 0, 1) := by decide +kernel
theorem dX11_isMetNow_15 : decode cX11_isMetNow 15 = .ok (.getfield 95, 3) := by decide +kernel
theorem dX11_isMetNow_18 : decode cX11_isMetNow 18 = .ok (.iload_n 1, 1) := by decide +kernel
theorem dX11_isMetNow_19 : decode cX11_isMetNow 19 = .ok (.iaload, 1) := by decide +kernel
theorem dX11_isMetNow_20 : decode cX11_isMetNow 20 = .ok (.if_icmp .ge 11, 3) := by decide +kernel
theorem dX11_isMetNow_23 : decode cX11_isMetNow 23 = .ok (.aload_n 0, 1) := by decide +kernel
theorem dX11_isMetNow_24 : decode cX11_isMetNow 24 = .ok (.iload_n 1, 1) := by decide +kernel
theorem dX11_isMetNow_25 : decode cX11_isMetNow 25 = .ok (.invokevirtual 248, 3) := by decide +kernel
theorem dX11_isMetNow_28 : decode cX11_isMetNow 28 = .ok (.ifCond .eq 7, 3) := by decide +kernel
theorem dX11_isMetNow_31 : decode cX11_isMetNow 31 = .ok (.iconst 1, 1) := by decide +kernel
theorem dX11_isMetNow_32 : decode cX11_isMetNow 32 = .ok (.goto 4, 3) := by decide +kernel
theorem dX11_isMetNow_35 : decode cX11_isMetNow 35 = .ok (.iconst 0, 1) := by decide +kernel
theorem dX11_isMetNow_36 : decode cX11_isMetNow 36 = .ok (.ireturn, 1) := by decide +kernel
theorem dX11_isMet_0 : decode cX11_isMet 0 = .ok (.aload_n 0, 1) := by decide +kernel
theorem dX11_isMet_1 : decode cX11_isMet 1 = .ok (.iconst 0, 1) := by decide +kernel
theorem dX11_isMet_2 : decode cX11_isMet 2 = .ok (.putfield 117, 3) := by decide +kernel
theorem dX11_isMet_5 : decode cX11_isMet 5 = .ok (.aload_n 0, 1) := by decide +kernel
theorem dX11_isMet_6 : decode cX11_isMet 6 = .ok (.aload_n 0, 1) := by decide +kernel
theorem dX11_isMet_7 : decode cX11_isMet 7 = .ok (.iload_n 1, 1) := by decide +kernel
theorem dX11_isMet_8 : decode cX11_isMet 8 = .ok (.invokevirtual 235, 3) := by decide +kernel
theorem dX11_isMet_11 : decode cX11_isMet 11 = .ok (.iconst 1, 1) := by decide +kernel
theorem dX11_isMet_12 : decode cX11_isMet 12 = .ok (.invokevirtual 146, 3) := by decide +kernel
theorem dX11_isMet_15 : decode cX11_isMet 15 = .ok (.ifCond .ne 15, 3) := by decide +kernel
theorem dX11_isMet_18 : decode cX11_isMet 18 = .ok (.aload_n 0, 1) := by decide +kernel
theorem dX11_isMet_19 : decode cX11_isMet 19 = .ok (.iload_n 1, 1) := by decide +kernel
theorem dX11_isMet_20 : decode cX11_isMet 20 = .ok (.invokevirtual 257, 3) := by decide +kernel
theorem dX11_isMet_23 : decode cX11_isMet 23 = .ok (.ifCond .eq 7, 3) := by decide +kernel
theorem dX11_isMet_26 : decode cX11_isMet 26 = .ok (.iconst 1, 1) := by decide +kernel
theorem dX11_isMet_27 : decode cX11_isMet 27 = .ok (.goto 4, 3) := by decide +kernel
theorem dX11_isMet_30 : decode cX11_isMet 30 = .ok (.iconst 0, 1) := by decide +kernel
theorem dX11_isMet_31 : decode cX11_isMet 31 = .ok (.ireturn, 1) := by decide +kernel
theorem dX11_begin_0 : decode cX11_begin 0 = .ok (.aload_n 0, 1) := by decide +kernel
theorem dX11_begin_1 : decode cX11_begin 1 = .ok (.iconst 0, 1) := by decide +kernel
theorem dX11_begin_2 : decode cX11_begin 2 = .ok (.putfield 117, 3) := by decide +kernel
theorem dX11_begin_5 : decode cX11_begin 5 = .ok (.aload_n 0, 1) := by decide +kernel
theorem dX11_begin_6 : decode cX11_begin 6 = .ok (.iload_n 1, 1) := by decide +kernel
theorem dX11_begin_7 : decode cX11_begin 7 = .ok (.i2l, 1) := by decide +kernel
theorem dX11_begin_8 : decode cX11_begin 8 = .ok (.ldc2_w 156, 3) := by decide +kernel
theorem dX11_begin_11 : decode cX11_begin 11 = .ok (.ldc2_w 260, 3) := by decide +kernel
theorem dX11_begin_14 : decode cX11_begin 14 = .ok (.invokestatic 132, 3) := by decide +kernel
theorem dX11_begin_17 : decode cX11_begin 17 = .ok (.ifCond .eq 28, 3) := by decide +kernel
theorem dX11_begin_20 : decode cX11_begin 20 = .ok (.iload_n 2, 1) := by decide +kernel
theorem dX11_begin_21 : decode cX11_begin 21 = .ok (.i2l, 1) := by decide +kernel
theorem dX11_begin_22 : decode cX11_begin 22 = .ok (.lconst 0, 1) := by decide +kernel
theorem dX11_begin_23 : decode cX11_begin 23 = .ok (.ldc2_w 262, 3) := by decide +kernel
theorem dX11_begin_26 : decode cX11_begin 26 = .ok (.invokestatic 132, 3) := by decide +kernel
theorem dX11_begin_29 : decode cX11_begin 29 = .ok (.ifCond .eq 16, 3) := by decide +kernel
theorem dX11_begin_32 : decode cX11_begin 32 = .ok (.iload_n 3, 1) := by decide +kernel
theorem dX11_begin_33 : decode cX11_begin 33 = .ok (.i2l, 1) := by decide +kernel
theorem dX11_begin_34 : decode cX11_begin 34 = .ok (.iload_n 2, 1) := by decide +kernel
theorem dX11_begin_35 : decode cX11_begin 35 = .ok (.i2l, 1) := by decide +kernel
theorem dX11_begin_36 : decode cX11_begin 36 = .ok (.ldc2_w 262, 3) := by decide +kernel
theorem dX11_begin_39 : decode cX11_begin 39 = .ok (.invokestatic 132, 3) := by decide +kernel
theorem dX11_begin_42 : decode cX11_begin 42 = .ok (.ifCond .ne 7, 3) := by decide +kernel
theorem dX11_begin_45 : decode cX11_begin 45 = .ok (.iconst 1, 1) := by decide +kernel
theorem dX11_begin_46 : decode cX11_begin 46 = .ok (.goto 4, 3) := by decide +kernel
theorem dX11_begin_49 : decode cX11_begin 49 = .ok (.iconst 0, 1) := by decide +kernel
theorem dX11_begin_50 : decode cX11_begin 50 = .ok (.iconst 1, 1) := by decide +kernel
theorem dX11_begin_51 : decode cX11_begin 51 = .ok (.invokevirtual 146, 3) := by decide +kernel
theorem dX11_begin_54 : decode cX11_begin 54 = .ok (.ifCond .ne 30, 3) := by decide +kernel
theorem dX11_begin_57 : decode cX11_begin 57 = .ok (.aload_n 0, 1) := by decide +kernel
theorem dX11_begin_58 : decode cX11_begin 58 = .ok (.aload_n 0, 1) := by decide +kernel
theorem dX11_begin_59 : decode cX11_begin 59 = .ok (.invokevirtual 165, 3) := by decide +kernel
theorem dX11_begin_62 : decode cX11_begin 62 = .ok (.ifCond .ne 10, 3) := by decide +kernel
theorem dX11_begin_65 : decode cX11_begin 65 = .ok (.aload_n 0, 1) := by decide +kernel
theorem dX11_begin_66 : decode cX11_begin 66 = .ok (.invokevirtual 169, 3) := by decide +kernel
theorem dX11_begin_69 : decode cX11_begin 69 = .ok (.ifCond .eq 7, 3) := by decide +kernel
theorem dX11_begin_72 : decode cX11_begin 72 = .ok (.iconst 1, 1) := by decide +kernel
theorem dX11_begin_73 : decode cX11_begin 73 = .ok (.goto 4, 3) := by decide +kernel
theorem dX11_begin_76 : decode cX11_begin 76 = .ok (.iconst 0, 1) := by decide +kernel
theorem dX11_begin_77 : decode cX11_begin 77 = .ok (.iconst 2, 1) := by decide +kernel
theorem dX11_begin_78 : decode cX11_begin 78 = .ok (.invokevirtual 146, 3) := by decide +kernel
theorem dX11_begin_81 : decode cX11_begin 81 = .ok (.ifCond .eq 5, 3) := by decide +kernel
theorem dX11_begin_84 : decode cX11_begin 84 = .ok (.iconst 0, 1) := by decide +kernel
theorem dX11_begin_85 : decode cX11_begin 85 = .ok (.ireturn, 1) := by decide +kernel
theorem dX11_begin_86 : decode cX11_begin 86 = .ok (.aload_n 0, 1) := by decide +kernel
theorem dX11_begin_87 : decode cX11_begin 87 = .ok (.iconst 1, 1) := by decide +kernel
theorem dX11_begin_88 : decode cX11_begin 88 = .ok (.putfield 241, 3) := by decide +kernel
theorem dX11_begin_91 : decode cX11_begin 91 = .ok (.aload_n 0, 1) := by decide +kernel
theorem dX11_begin_92 : decode cX11_begin 92 = .ok (.bipush 99, 2) := by decide +kernel
theorem dX11_begin_94 : decode cX11_begin 94 = .ok (.putfield 7, 3) := by decide +kernel
theorem dX11_begin_97 : decode cX11_begin 97 = .ok (.aload_n 0, 1) := by decide +kernel
theorem dX11_begin_98 : decode cX11_begin 98 = .ok (.iload_n 1, 1) := by decide +kernel
theorem dX11_begin_99 : decode cX11_begin 99 = .ok (.putfield 245, 3) := by decide +kernel
theorem dX11_begin_102 : decode cX11_begin 102 = .ok (.aload_n 0, 1) := by decide +kernel
theorem dX11_begin_103 : decode cX11_begin 103 = .ok (.aload_n 0, 1) := by decide +kernel
theorem dX11_begin_104 : decode cX11_begin 104 = .ok (.getfield 120, 3) := by decide +kernel
theorem dX11_begin_107 : decode cX11_begin 107 = .ok (.i2l, 1) := by decide +kernel
theorem dX11_begin_108 : decode cX11_begin 108 = .ok (.iload_n 2, 1) := by decide +kernel
theorem dX11_begin_109 : decode cX11_begin 109 = .ok (.i2l, 1) := by decide +kernel
theorem dX11_begin_110 : decode cX11_begin 110 = .ok (.ladd, 1) := by decide +kernel
theorem dX11_begin_111 : decode cX11_begin 111 = .ok (.putfield 264, 3) := by decide +kernel
theorem dX11_begin_114 : decode cX11_begin 114 = .ok (.aload_n 0, 1) := by decide +kernel
theorem dX11_begin_115 : decode cX11_begin 115 = .ok (.aload_n 0, 1) := by decide +kernel
theorem dX11_begin_116 : decode cX11_begin 116 = .ok (.getfield 120, 3) := by decide +kernel
theorem dX11_begin_119 : decode cX11_begin 119 = .ok (.i2l, 1) := by decide +kernel
theorem dX11_begin_120 : decode cX11_begin 120 = .ok (.iload_n 3, 1) := by decide +kernel
theorem dX11_begin_121 : decode cX11_begin 121 = .ok (.i2l, 1) := by decide +kernel
theorem dX11_begin_122 : decode cX11_begin 122 = .ok (.ladd, 1) := by decide +kernel
theorem dX11_begin_123 : decode cX11_begin 123 = .ok (.putfield 268, 3) := by decide +kernel
theorem dX11_begin_126 : decode cX11_begin 126 = .ok (.aload_n 0, 1) := by decide +kernel
theorem dX11_begin_127 : decode cX11_begin 127 = .ok (.iconst 0, 1) := by decide +kernel
theorem dX11_begin_128 : decode cX11_begin 128 = .ok (.putfield 271, 3) := by decide +kernel
theorem dX11_begin_131 : decode cX11_begin 131 = .ok (.aload_n 0, 1) := by decide +kernel
theorem dX11_begin_132 : decode cX11_begin 132 = .ok (.iconst 0, 1) := by decide +kernel
theorem dX11_begin_133 : decode cX11_begin 133 = .ok (.putfield 274, 3) := by decide +kernel
theorem dX11_begin_136 : decode cX11_begin 136 = .ok (.aload_n 0, 1) := by decide +kernel
theorem dX11_begin_137 : decode cX11_begin 137 = .ok (.iconst 0, 1) := by decide +kernel
theorem dX11_begin_138 : decode cX11_begin 138 = .ok (.putfield 277, 3) := by decide +kernel
theorem dX11_begin_141 : decode cX11_begin 141 = .ok (.aload_n 0, 1) := by decide +kernel
theorem dX11_begin_142 : decode cX11_begin 142 = .ok (.iconst (-1), 1) := by decide +kernel
theorem dX11_begin_143 : decode cX11_begin 143 = .ok (.putfield 13, 3) := by decide +kernel
theorem dX11_begin_146 : decode cX11_begin 146 = .ok (.aload_n 0, 1) := by decide +kernel
theorem dX11_begin_147 : decode cX11_begin 147 = .ok (.iconst 0, 1) := by decide +kernel
theorem dX11_begin_148 : decode cX11_begin 148 = .ok (.putfield 280, 3) := by decide +kernel
theorem dX11_begin_151 : decode cX11_begin 151 = .ok (.aload_n 0, 1) := by decide +kernel
theorem dX11_begin_152 : decode cX11_begin 152 = .ok (.iconst (-1), 1) := by decide +kernel
theorem dX11_begin_153 : decode cX11_begin 153 = .ok (.putfield 17, 3) := by decide +kernel
theorem dX11_begin_156 : decode cX11_begin 156 = .ok (.aload_n 0, 1) := by decide +kernel
theorem dX11_begin_157 : decode cX11_begin 157 = .ok (.invokevirtual 283, 3) := by decide +kernel
theorem dX11_begin_160 : decode cX11_begin 160 = .ok (.iconst 0, 1) := by decide +kernel
theorem dX11_begin_161 : decode cX11_begin 161 = .ok (.istore 4, 2) := by decide +kernel
theorem dX11_begin_163 : decode cX11_begin 163 = .ok (.iload 4, 2) := by decide +kernel
theorem dX11_begin_165 : decode cX11_begin 165 = .ok (.aload_n 0, 1) := by decide +kernel
theorem dX11_begin_166 : decode cX11_begin 166 = .ok (.getfield 162, 3) := by decide +kernel
theorem dX11_begin_169 : decode cX11_begin 169 = .ok (.if_icmp .ge 18, 3) := by decide +kernel
theorem dX11_begin_172 : decode cX11_begin 172 = .ok (.aload_n 0, 1) := by decide +kernel
theorem dX11_begin_173 : decode cX11_begin 173 = .ok (.getfield 46, 3) := by decide +kernel
theorem dX11_begin_176 : decode cX11_begin 176 = .ok (.iload 4, 2) := by decide +kernel
theorem dX11_begin_178 : decode cX11_begin 178 = .ok (.bipush 45, 2) := by decide +kernel
theorem dX11_begin_180 : decode cX11_begin 180 = .ok (.castore, 1) := by decide +kernel
theorem dX11_begin_181 : decode cX11_begin 181 = .ok (.iinc 4 1, 3) := by decide +kernel
theorem dX11_begin_184 : decode cX11_begin 184 = .ok (.goto (-21), 3) := by decide +kernel
theorem dX11_begin_187 : decode cX11_begin 187 = .ok (.aload_n 0, 1) := by decide +kernel
theorem dX11_begin_188 : decode cX11_begin 188 = .ok (.bipush 67, 2) := by decide +kernel
theorem dX11_begin_190 : decode cX11_begin 190 = .ok (.invokevirtual 286, 3) := by decide +kernel
theorem dX11_begin_193 : decode cX11_begin 193 = .ok (.aload_n 0, 1) := by decide +kernel
theorem dX11_begin_194 : decode cX11_begin 194 = .ok (.getfield 120, 3) := by decide +kernel
theorem dX11_begin_197 : decode cX11_begin 197 = .ok (.iload_n 1, 1) := by decide +kernel
theorem dX11_begin_198 : decode cX11_begin 198 = .ok (.isub, 1) := by decide +kernel
theorem dX11_begin_199 : decode cX11_begin 199 = .ok (.ireturn, 1) := by decide +kernel
theorem dX11_recycle_0 : decode cX11_recycle 0 = .ok (.aload_n 0, 1) := by decide +kernel
theorem dX11_recycle_1 : decode cX11_recycle 1 = .ok (.iconst 0, 1) := by decide +kernel
theorem dX11_recycle_2 : decode cX11_recycle 2 = .ok (.putfield 117, 3) := by decide +kernel
theorem dX11_recycle_5 : decode cX11_recycle 5 = .ok (.aload_n 0, 1) := by decide +kernel
theorem dX11_recycle_6 : decode cX11_recycle 6 = .ok (.iload_n 1, 1) := by decide +kernel
theorem dX11_recycle_7 : decode cX11_recycle 7 = .ok (.i2l, 1) := by decide +kernel
theorem dX11_recycle_8 : decode cX11_recycle 8 = .ok (.lconst 0, 1) := by decide +kernel
theorem dX11_recycle_9 : decode cX11_recycle 9 = .ok (.aload_n 0, 1) := by decide +kernel
theorem dX11_recycle_10 : decode cX11_recycle 10 = .ok (.getfield 181, 3) := by decide +kernel
theorem dX11_recycle_13 : decode cX11_recycle 13 = .ok (.iconst 1, 1) := by decide +kernel
theorem dX11_recycle_14 : decode cX11_recycle 14 = .ok (.isub, 1) := by decide +kernel
theorem dX11_recycle_15 : decode cX11_recycle 15 = .ok (.i2l, 1) := by decide +kernel
theorem dX11_recycle_16 : decode cX11_recycle 16 = .ok (.invokestatic 132, 3) := by decide +kernel
theorem dX11_recycle_19 : decode cX11_recycle 19 = .ok (.ifCond .ne 7, 3) := by decide +kernel
theorem dX11_recycle_22 : decode cX11_recycle 22 = .ok (.iconst 1, 1) := by decide +kernel
theorem dX11_recycle_23 : decode cX11_recycle 23 = .ok (.goto 4, 3) := by decide +kernel
theorem dX11_recycle_26 : decode cX11_recycle 26 = .ok (.iconst 0, 1) := by decide +kernel
theorem dX11_recycle_27 : decode cX11_recycle 27 = .ok (.iconst 1, 1) := by decide +kernel
theorem dX11_recycle_28 : decode cX11_recycle 28 = .ok (.invokevirtual 146, 3) := by decide +kernel
theorem dX11_recycle_31 : decode cX11_recycle 31 = .ok (.ifCond .ne 36, 3) := by decide +kernel
theorem dX11_recycle_34 : decode cX11_recycle 34 = .ok (.aload_n 0, 1) := by decide +kernel
theorem dX11_recycle_35 : decode cX11_recycle 35 = .ok (.aload_n 0, 1) := by decide +kernel
theorem dX11_recycle_36 : decode cX11_recycle 36 = .ok (.invokevirtual 165, 3) := by decide +kernel
theorem dX11_recycle_39 : decode cX11_recycle 39 = .ok (.ifCond .eq 16, 3) := by decide +kernel
theorem dX11_recycle_42 : decode cX11_recycle 42 = .ok (.aload_n 0, 1) := by decide +kernel
theorem dX11_recycle_43 : decode cX11_recycle 43 = .ok (.getfield 245, 3) := by decide +kernel
theorem dX11_recycle_46 : decode cX11_recycle 46 = .ok (.aload_n 0, 1) := by decide +kernel
theorem dX11_recycle_47 : decode cX11_recycle 47 = .ok (.getfield 53, 3) := by decide +kernel
theorem dX11_recycle_50 : decode cX11_recycle 50 = .ok (.iload_n 1, 1) := by decide +kernel
theorem dX11_recycle_51 : decode cX11_recycle 51 = .ok (.iaload, 1) := by decide +kernel
theorem dX11_recycle_52 : decode cX11_recycle 52 = .ok (.if_icmp .gt 7, 3) := by decide +kernel
theorem dX11_recycle_55 : decode cX11_recycle 55 = .ok (.iconst 1, 1) := by decide +kernel
theorem dX11_recycle_56 : decode cX11_recycle 56 = .ok (.goto 4, 3) := by decide +kernel
theorem dX11_recycle_59 : decode cX11_recycle 59 = .ok (.iconst 0, 1) := by decide +kernel
theorem dX11_recycle_60 : decode cX11_recycle 60 = .ok (.iconst 2, 1) := by decide +kernel
theorem dX11_recycle_61 : decode cX11_recycle 61 = .ok (.invokevirtual 146, 3) := by decide +kernel
theorem dX11_recycle_64 : decode cX11_recycle 64 = .ok (.ifCond .eq 5, 3) := by decide +kernel
theorem dX11_recycle_67 : decode cX11_recycle 67 = .ok (.iconst 0, 1) := by decide +kernel
theorem dX11_recycle_68 : decode cX11_recycle 68 = .ok (.ireturn, 1) := by decide +kernel
theorem dX11_recycle_69 : decode cX11_recycle 69 = .ok (.iconst 0, 1) := by decide +kernel
theorem dX11_recycle_70 : decode cX11_recycle 70 = .ok (.istore_n 2, 1) := by decide +kernel
theorem dX11_recycle_71 : decode cX11_recycle 71 = .ok (.iconst 0, 1) := by decide +kernel
theorem dX11_recycle_72 : decode cX11_recycle 72 = .ok (.istore_n 3, 1) := by decide +kernel
theorem dX11_recycle_73 : decode cX11_recycle 73 = .ok (.iload_n 3, 1) := by decide +kernel
theorem dX11_recycle_74 : decode cX11_recycle 74 = .ok (.aload_n 0, 1) := by decide +kernel
theorem dX11_recycle_75 : decode cX11_recycle 75 = .ok (.getfield 162, 3) := by decide +kernel
theorem dX11_recycle_78 : decode cX11_recycle 78 = .ok (.if_icmp .ge 51, 3) := by decide +kernel
theorem dX11_recycle_81 : decode cX11_recycle 81 = .ok (.aload_n 0, 1) := by decide +kernel
theorem dX11_recycle_82 : decode cX11_recycle 82 = .ok (.getfield 37, 3) := by decide +kernel
theorem dX11_recycle_85 : decode cX11_recycle 85 = .ok (.iload_n 3, 1) := by decide +kernel
theorem dX11_recycle_86 : decode cX11_recycle 86 = .ok (.iaload, 1) := by decide +kernel
theorem dX11_recycle_87 : decode cX11_recycle 87 = .ok (.aload_n 0, 1) := by decide +kernel
theorem dX11_recycle_88 : decode cX11_recycle 88 = .ok (.getfield 53, 3) := by decide +kernel
theorem dX11_recycle_91 : decode cX11_recycle 91 = .ok (.iload_n 1, 1) := by decide +kernel
theorem dX11_recycle_92 : decode cX11_recycle 92 = .ok (.iaload, 1) := by decide +kernel
theorem dX11_recycle_93 : decode cX11_recycle 93 = .ok (.if_icmp .lt 30, 3) := by decide +kernel
theorem dX11_recycle_96 : decode cX11_recycle 96 = .ok (.iload_n 2, 1) := by decide +kernel
theorem dX11_recycle_97 : decode cX11_recycle 97 = .ok (.aload_n 0, 1) := by decide +kernel
theorem dX11_recycle_98 : decode cX11_recycle 98 = .ok (.getfield 46, 3) := by decide +kernel
theorem dX11_recycle_101 : decode cX11_recycle 101 = .ok (.iload_n 3, 1) := by decide +kernel
theorem dX11_recycle_102 : decode cX11_recycle 102 = .ok (.caload, 1) := by decide +kernel
theorem dX11_recycle_103 : decode cX11_recycle 103 = .ok (.bipush 45, 2) := by decide +kernel
theorem dX11_recycle_105 : decode cX11_recycle 105 = .ok (.if_icmp .ne 7, 3) := by decide +kernel
theorem dX11_recycle_108 : decode cX11_recycle 108 = .ok (.iconst 0, 1) := by decide +kernel
theorem dX11_recycle_109 : decode cX11_recycle 109 = .ok (.goto 4, 3) := by decide +kernel
theorem dX11_recycle_112 : decode cX11_recycle 112 = .ok (.iconst 1, 1) := by decide +kernel
theorem dX11_recycle_113 : decode cX11_recycle 113 = .ok (.iadd, 1) := by decide +kernel
theorem dX11_recycle_114 : decode cX11_recycle 114 = .ok (.istore_n 2, 1) := by decide +kernel
theorem dX11_recycle_115 : decode cX11_recycle 115 = .ok (.aload_n 0, 1) := by decide +kernel
theorem dX11_recycle_116 : decode cX11_recycle 116 = .ok (.getfield 46, 3) := by decide +kernel
theorem dX11_recycle_119 : decode cX11_recycle 119 = .ok (.iload_n 3, 1) := by decide +kernel
theorem dX11_recycle_120 : decode cX11_recycle 120 = .ok (.bipush 45, 2) := by decide +kernel
theorem dX11_recycle_122 : decode cX11_recycle 122 = .ok (.castore, 1) := by decide +kernel
theorem dX11_recycle_123 : decode cX11_recycle 123 = .ok (.iinc 3 1, 3) := by decide +kernel
theorem dX11_recycle_126 : decode cX11_recycle 126 = .ok (.goto (-53), 3) := by decide +kernel
theorem dX11_recycle_129 : decode cX11_recycle 129 = .ok (.aload_n 0, 1) := by decide +kernel
theorem dX11_recycle_130 : decode cX11_recycle 130 = .ok (.aload_n 0, 1) := by decide +kernel
theorem dX11_recycle_131 : decode cX11_recycle 131 = .ok (.getfield 53, 3) := by decide +kernel
theorem dX11_recycle_134 : decode cX11_recycle 134 = .ok (.iload_n 1, 1) := by decide +kernel
theorem dX11_recycle_135 : decode cX11_recycle 135 = .ok (.iaload, 1) := by decide +kernel
theorem dX11_recycle_136 : decode cX11_recycle 136 = .ok (.putfield 245, 3) := by decide +kernel
theorem dX11_recycle_139 : decode cX11_recycle 139 = .ok (.aload_n 0, 1) := by decide +kernel
theorem dX11_recycle_140 : decode cX11_recycle 140 = .ok (.iconst 0, 1) := by decide +kernel
theorem dX11_recycle_141 : decode cX11_recycle 141 = .ok (.putfield 274, 3) := by decide +kernel
theorem dX11_recycle_144 : decode cX11_recycle 144 = .ok (.aload_n 0, 1) := by decide +kernel
theorem dX11_recycle_145 : decode cX11_recycle 145 = .ok (.bipush 99, 2) := by decide +kernel
theorem dX11_recycle_147 : decode cX11_recycle 147 = .ok (.putfield 7, 3) := by decide +kernel
theorem dX11_recycle_150 : decode cX11_recycle 150 = .ok (.aload_n 0, 1) := by decide +kernel
theorem dX11_recycle_151 : decode cX11_recycle 151 = .ok (.iconst 0, 1) := by decide +kernel
theorem dX11_recycle_152 : decode cX11_recycle 152 = .ok (.putfield 277, 3) := by decide +kernel
theorem dX11_recycle_155 : decode cX11_recycle 155 = .ok (.aload_n 0, 1) := by decide +kernel
theorem dX11_recycle_156 : decode cX11_recycle 156 = .ok (.iconst (-1), 1) := by decide +kernel
theorem dX11_recycle_157 : decode cX11_recycle 157 = .ok (.putfield 13, 3) := by decide +kernel
theorem dX11_recycle_160 : decode cX11_recycle 160 = .ok (.aload_n 0, 1) := by decide +kernel
theorem dX11_recycle_161 : decode cX11_recycle 161 = .ok (.invokevirtual 283, 3) := by decide +kernel
theorem dX11_recycle_164 : decode cX11_recycle 164 = .ok (.aload_n 0, 1) := by decide +kernel
theorem dX11_recycle_165 : decode cX11_recycle 165 = .ok (.bipush 82, 2) := by decide +kernel
theorem dX11_recycle_167 : decode cX11_recycle 167 = .ok (.invokevirtual 286, 3) := by decide +kernel
theorem dX11_recycle_170 : decode cX11_recycle 170 = .ok (.iload_n 2, 1) := by decide +kernel
theorem dX11_recycle_171 : decode cX11_recycle 171 = .ok (.ireturn, 1) := by decide +kernel
theorem dX11_callOff_0 : decode cX11_callOff 0 = .ok (.aload_n 0, 1) := by decide +kernel
theorem dX11_callOff_1 : decode cX11_callOff 1 = .ok (.bipush 115, 2) := by decide +kernel
theorem dX11_callOff_3 : decode cX11_callOff 3 = .ok (.putfield 7, 3) := by decide +kernel
theorem dX11_callOff_6 : decode cX11_callOff 6 = .ok (.aload_n 0, 1) := by decide +kernel
theorem dX11_callOff_7 : decode cX11_callOff 7 = .ok (.iload_n 1, 1) := by decide +kernel
theorem dX11_callOff_8 : decode cX11_callOff 8 = .ok (.putfield 277, 3) := by decide +kernel
theorem dX11_callOff_11 : decode cX11_callOff 11 = .ok (.aload_n 0, 1) := by decide +kernel
theorem dX11_callOff_12 : decode cX11_callOff 12 = .ok (.iload_n 2, 1) := by decide +kernel
theorem dX11_callOff_13 : decode cX11_callOff 13 = .ok (.putfield 13, 3) := by decide +kernel
theorem dX11_callOff_16 : decode cX11_callOff 16 = .ok (.aload_n 0, 1) := by decide +kernel
theorem dX11_callOff_17 : decode cX11_callOff 17 = .ok (.bipush 83, 2) := by decide +kernel
theorem dX11_callOff_19 : decode cX11_callOff 19 = .ok (.invokevirtual 286, 3) := by decide +kernel
theorem dX11_callOff_22 : decode cX11_callOff 22 = .ok (.return_, 1) := by decide +kernel
theorem dX11_scrub_0 : decode cX11_scrub 0 = .ok (.aload_n 0, 1) := by decide +kernel
theorem dX11_scrub_1 : decode cX11_scrub 1 = .ok (.iconst 0, 1) := by decide +kernel
theorem dX11_scrub_2 : decode cX11_scrub 2 = .ok (.putfield 117, 3) := by decide +kernel
theorem dX11_scrub_5 : decode cX11_scrub 5 = .ok (.aload_n 0, 1) := by decide +kernel
theorem dX11_scrub_6 : decode cX11_scrub 6 = .ok (.invokevirtual 165, 3) := by decide +kernel
theorem dX11_scrub_9 : decode cX11_scrub 9 = .ok (.istore_n 1, 1) := by decide +kernel
theorem dX11_scrub_10 : decode cX11_scrub 10 = .ok (.iload_n 1, 1) := by decide +kernel
theorem dX11_scrub_11 : decode cX11_scrub 11 = .ok (.ifCond .eq 10, 3) := by decide +kernel
theorem dX11_scrub_14 : decode cX11_scrub 14 = .ok (.aload_n 0, 1) := by decide +kernel
theorem dX11_scrub_15 : decode cX11_scrub 15 = .ok (.bipush 99, 2) := by decide +kernel
theorem dX11_scrub_17 : decode cX11_scrub 17 = .ok (.iconst (-1), 1) := by decide +kernel
theorem dX11_scrub_18 : decode cX11_scrub 18 = .ok (.invokevirtual 290, 3) := by decide +kernel
theorem dX11_scrub_21 : decode cX11_scrub 21 = .ok (.iload_n 1, 1) := by decide +kernel
theorem dX11_scrub_22 : decode cX11_scrub 22 = .ok (.ireturn, 1) := by decide +kernel
theorem dX11_goTanks_0 : decode cX11_goTanks 0 = .ok (.iconst 0, 1) := by decide +kernel
theorem dX11_goTanks_1 : decode cX11_goTanks 1 = .ok (.istore_n 1, 1) := by decide +kernel
theorem dX11_goTanks_2 : decode cX11_goTanks 2 = .ok (.iload_n 1, 1) := by decide +kernel
theorem dX11_goTanks_3 : decode cX11_goTanks 3 = .ok (.iconst 3, 1) := by decide +kernel
theorem dX11_goTanks_4 : decode cX11_goTanks 4 = .ok (.if_icmp .ge 84, 3) := by decide +kernel
theorem dX11_goTanks_7 : decode cX11_goTanks 7 = .ok (.aload_n 0, 1) := by decide +kernel
theorem dX11_goTanks_8 : decode cX11_goTanks 8 = .ok (.getfield 30, 3) := by decide +kernel
theorem dX11_goTanks_11 : decode cX11_goTanks 11 = .ok (.iload_n 1, 1) := by decide +kernel
theorem dX11_goTanks_12 : decode cX11_goTanks 12 = .ok (.dup2, 1) := by decide +kernel
theorem dX11_goTanks_13 : decode cX11_goTanks 13 = .ok (.iaload, 1) := by decide +kernel
theorem dX11_goTanks_14 : decode cX11_goTanks 14 = .ok (.aload_n 0, 1) := by decide +kernel
theorem dX11_goTanks_15 : decode cX11_goTanks 15 = .ok (.getfield 30, 3) := by decide +kernel
theorem dX11_goTanks_18 : decode cX11_goTanks 18 = .ok (.iload_n 1, 1) := by decide +kernel
theorem dX11_goTanks_19 : decode cX11_goTanks 19 = .ok (.iaload, 1) := by decide +kernel
theorem dX11_goTanks_20 : decode cX11_goTanks 20 = .ok (.i2l, 1) := by decide +kernel
theorem dX11_goTanks_21 : decode cX11_goTanks 21 = .ok (.aload_n 0, 1) := by decide +kernel
theorem dX11_goTanks_22 : decode cX11_goTanks 22 = .ok (.getfield 27, 3) := by decide +kernel
theorem dX11_goTanks_25 : decode cX11_goTanks 25 = .ok (.iload_n 1, 1) := by decide +kernel
theorem dX11_goTanks_26 : decode cX11_goTanks 26 = .ok (.iaload, 1) := by decide +kernel
theorem dX11_goTanks_27 : decode cX11_goTanks 27 = .ok (.i2l, 1) := by decide +kernel
theorem dX11_goTanks_28 : decode cX11_goTanks 28 = .ok (.lmul, 1) := by decide +kernel
theorem dX11_goTanks_29 : decode cX11_goTanks 29 = .ok (.ldc2_w 142, 3) := by decide +kernel
theorem dX11_goTanks_32 : decode cX11_goTanks 32 = .ok (.ldiv, 1) := by decide +kernel
theorem dX11_goTanks_33 : decode cX11_goTanks 33 = .ok (.l2i, 1) := by decide +kernel
theorem dX11_goTanks_34 : decode cX11_goTanks 34 = .ok (.isub, 1) := by decide +kernel
theorem dX11_goTanks_35 : decode cX11_goTanks 35 = .ok (.iastore, 1) := by decide +kernel
theorem dX11_goTanks_36 : decode cX11_goTanks 36 = .ok (.aload_n 0, 1) := by decide +kernel
theorem dX11_goTanks_37 : decode cX11_goTanks 37 = .ok (.getfield 30, 3) := by decide +kernel
theorem dX11_goTanks_40 : decode cX11_goTanks 40 = .ok (.iload_n 1, 1) := by decide +kernel
theorem dX11_goTanks_41 : decode cX11_goTanks 41 = .ok (.aload_n 0, 1) := by decide +kernel
theorem dX11_goTanks_42 : decode cX11_goTanks 42 = .ok (.getfield 33, 3) := by decide +kernel
theorem dX11_goTanks_45 : decode cX11_goTanks 45 = .ok (.iload_n 1, 1) := by decide +kernel
theorem dX11_goTanks_46 : decode cX11_goTanks 46 = .ok (.baload, 1) := by decide +kernel
theorem dX11_goTanks_47 : decode cX11_goTanks 47 = .ok (.ifCond .eq 28, 3) := by decide +kernel
theorem dX11_goTanks_50 : decode cX11_goTanks 50 = .ok (.aload_n 0, 1) := by decide +kernel
theorem dX11_goTanks_51 : decode cX11_goTanks 51 = .ok (.getfield 20, 3) := by decide +kernel
theorem dX11_goTanks_54 : decode cX11_goTanks 54 = .ok (.iload_n 1, 1) := by decide +kernel
theorem dX11_goTanks_55 : decode cX11_goTanks 55 = .ok (.iaload, 1) := by decide +kernel
theorem dX11_goTanks_56 : decode cX11_goTanks 56 = .ok (.aload_n 0, 1) := by decide +kernel
theorem dX11_goTanks_57 : decode cX11_goTanks 57 = .ok (.getfield 30, 3) := by decide +kernel
theorem dX11_goTanks_60 : decode cX11_goTanks 60 = .ok (.iload_n 1, 1) := by decide +kernel
theorem dX11_goTanks_61 : decode cX11_goTanks 61 = .ok (.iaload, 1) := by decide +kernel
theorem dX11_goTanks_62 : decode cX11_goTanks 62 = .ok (.aload_n 0, 1) := by decide +kernel
theorem dX11_goTanks_63 : decode cX11_goTanks 63 = .ok (.getfield 24, 3) := by decide +kernel
theorem dX11_goTanks_66 : decode cX11_goTanks 66 = .ok (.iload_n 1, 1) := by decide +kernel
theorem dX11_goTanks_67 : decode cX11_goTanks 67 = .ok (.iaload, 1) := by decide +kernel
theorem dX11_goTanks_68 : decode cX11_goTanks 68 = .ok (.iadd, 1) := by decide +kernel
theorem dX11_goTanks_69 : decode cX11_goTanks 69 = .ok (.invokestatic 150, 3) := by decide +kernel
theorem dX11_goTanks_72 : decode cX11_goTanks 72 = .ok (.goto 9, 3) := by decide +kernel
theorem dX11_goTanks_75 : decode cX11_goTanks 75 = .ok (.aload_n 0, 1) := by decide +kernel
theorem dX11_goTanks_76 : decode cX11_goTanks 76 = .ok (.getfield 30, 3) := by decide +kernel
theorem dX11_goTanks_79 : decode cX11_goTanks 79 = .ok (.iload_n 1, 1) := by decide +kernel
theorem dX11_goTanks_80 : decode cX11_goTanks 80 = .ok (.iaload, 1) := by decide +kernel
theorem dX11_goTanks_81 : decode cX11_goTanks 81 = .ok (.iastore, 1) := by decide +kernel
theorem dX11_goTanks_82 : decode cX11_goTanks 82 = .ok (.iinc 1 1, 3) := by decide +kernel
theorem dX11_goTanks_85 : decode cX11_goTanks 85 = .ok (.goto (-83), 3) := by decide +kernel
theorem dX11_goTanks_88 : decode cX11_goTanks 88 = .ok (.return_, 1) := by decide +kernel
theorem dX11_areDone_0 : decode cX11_areDone 0 = .ok (.iconst 1, 1) := by decide +kernel
theorem dX11_areDone_1 : decode cX11_areDone 1 = .ok (.istore_n 2, 1) := by decide +kernel
theorem dX11_areDone_2 : decode cX11_areDone 2 = .ok (.iconst 0, 1) := by decide +kernel
theorem dX11_areDone_3 : decode cX11_areDone 3 = .ok (.istore_n 3, 1) := by decide +kernel
theorem dX11_areDone_4 : decode cX11_areDone 4 = .ok (.iload_n 3, 1) := by decide +kernel
theorem dX11_areDone_5 : decode cX11_areDone 5 = .ok (.aload_n 0, 1) := by decide +kernel
theorem dX11_areDone_6 : decode cX11_areDone 6 = .ok (.getfield 162, 3) := by decide +kernel
theorem dX11_areDone_9 : decode cX11_areDone 9 = .ok (.if_icmp .ge 38, 3) := by decide +kernel
theorem dX11_areDone_12 : decode cX11_areDone 12 = .ok (.iload_n 2, 1) := by decide +kernel
theorem dX11_areDone_13 : decode cX11_areDone 13 = .ok (.ifCond .eq 26, 3) := by decide +kernel
theorem dX11_areDone_16 : decode cX11_areDone 16 = .ok (.iload_n 1, 1) := by decide +kernel
theorem dX11_areDone_17 : decode cX11_areDone 17 = .ok (.iload_n 3, 1) := by decide +kernel
theorem dX11_areDone_18 : decode cX11_areDone 18 = .ok (.ishr, 1) := by decide +kernel
theorem dX11_areDone_19 : decode cX11_areDone 19 = .ok (.iconst 1, 1) := by decide +kernel
theorem dX11_areDone_20 : decode cX11_areDone 20 = .ok (.iand, 1) := by decide +kernel
theorem dX11_areDone_21 : decode cX11_areDone 21 = .ok (.ifCond .eq 14, 3) := by decide +kernel
theorem dX11_areDone_24 : decode cX11_areDone 24 = .ok (.aload_n 0, 1) := by decide +kernel
theorem dX11_areDone_25 : decode cX11_areDone 25 = .ok (.getfield 46, 3) := by decide +kernel
theorem dX11_areDone_28 : decode cX11_areDone 28 = .ok (.iload_n 3, 1) := by decide +kernel
theorem dX11_areDone_29 : decode cX11_areDone 29 = .ok (.caload, 1) := by decide +kernel
theorem dX11_areDone_30 : decode cX11_areDone 30 = .ok (.bipush 101, 2) := by decide +kernel
theorem dX11_areDone_32 : decode cX11_areDone 32 = .ok (.if_icmp .ne 7, 3) := by decide +kernel
theorem dX11_areDone_35 : decode cX11_areDone 35 = .ok (.iconst 1, 1) := by decide +kernel
theorem dX11_areDone_36 : decode cX11_areDone 36 = .ok (.goto 4, 3) := by decide +kernel
theorem dX11_areDone_39 : decode cX11_areDone 39 = .ok (.iconst 0, 1) := by decide +kernel
theorem dX11_areDone_40 : decode cX11_areDone 40 = .ok (.istore_n 2, 1) := by decide +kernel
theorem dX11_areDone_41 : decode cX11_areDone 41 = .ok (.iinc 3 1, 3) := by decide +kernel
theorem dX11_areDone_44 : decode cX11_areDone 44 = .ok (.goto (-40), 3) := by decide +kernel
theorem dX11_areDone_47 : decode cX11_areDone 47 = .ok (.iload_n 2, 1) := by decide +kernel
theorem dX11_areDone_48 : decode cX11_areDone 48 = .ok (.ireturn, 1) := by decide +kernel
theorem dX11_goSteps_0 : decode cX11_goSteps 0 = .ok (.iconst 0, 1) := by decide +kernel
theorem dX11_goSteps_1 : decode cX11_goSteps 1 = .ok (.istore_n 1, 1) := by decide +kernel
theorem dX11_goSteps_2 : decode cX11_goSteps 2 = .ok (.iload_n 1, 1) := by decide +kernel
theorem dX11_goSteps_3 : decode cX11_goSteps 3 = .ok (.aload_n 0, 1) := by decide +kernel
theorem dX11_goSteps_4 : decode cX11_goSteps 4 = .ok (.getfield 162, 3) := by decide +kernel
theorem dX11_goSteps_7 : decode cX11_goSteps 7 = .ok (.if_icmp .ge 52, 3) := by decide +kernel
theorem dX11_goSteps_10 : decode cX11_goSteps 10 = .ok (.aload_n 0, 1) := by decide +kernel
theorem dX11_goSteps_11 : decode cX11_goSteps 11 = .ok (.getfield 46, 3) := by decide +kernel
theorem dX11_goSteps_14 : decode cX11_goSteps 14 = .ok (.iload_n 1, 1) := by decide +kernel
theorem dX11_goSteps_15 : decode cX11_goSteps 15 = .ok (.caload, 1) := by decide +kernel
theorem dX11_goSteps_16 : decode cX11_goSteps 16 = .ok (.bipush 114, 2) := by decide +kernel
theorem dX11_goSteps_18 : decode cX11_goSteps 18 = .ok (.if_icmp .ne 35, 3) := by decide +kernel
theorem dX11_goSteps_21 : decode cX11_goSteps 21 = .ok (.aload_n 0, 1) := by decide +kernel
theorem dX11_goSteps_22 : decode cX11_goSteps 22 = .ok (.getfield 50, 3) := by decide +kernel
theorem dX11_goSteps_25 : decode cX11_goSteps 25 = .ok (.iload_n 1, 1) := by decide +kernel
theorem dX11_goSteps_26 : decode cX11_goSteps 26 = .ok (.dup2, 1) := by decide +kernel
theorem dX11_goSteps_27 : decode cX11_goSteps 27 = .ok (.iaload, 1) := by decide +kernel
theorem dX11_goSteps_28 : decode cX11_goSteps 28 = .ok (.iconst 1, 1) := by decide +kernel
theorem dX11_goSteps_29 : decode cX11_goSteps 29 = .ok (.isub, 1) := by decide +kernel
theorem dX11_goSteps_30 : decode cX11_goSteps 30 = .ok (.iastore, 1) := by decide +kernel
theorem dX11_goSteps_31 : decode cX11_goSteps 31 = .ok (.aload_n 0, 1) := by decide +kernel
theorem dX11_goSteps_32 : decode cX11_goSteps 32 = .ok (.getfield 46, 3) := by decide +kernel
theorem dX11_goSteps_35 : decode cX11_goSteps 35 = .ok (.iload_n 1, 1) := by decide +kernel
theorem dX11_goSteps_36 : decode cX11_goSteps 36 = .ok (.aload_n 0, 1) := by decide +kernel
theorem dX11_goSteps_37 : decode cX11_goSteps 37 = .ok (.getfield 50, 3) := by decide +kernel
theorem dX11_goSteps_40 : decode cX11_goSteps 40 = .ok (.iload_n 1, 1) := by decide +kernel
theorem dX11_goSteps_41 : decode cX11_goSteps 41 = .ok (.iaload, 1) := by decide +kernel
theorem dX11_goSteps_42 : decode cX11_goSteps 42 = .ok (.ifCond .ne 8, 3) := by decide +kernel
theorem dX11_goSteps_45 : decode cX11_goSteps 45 = .ok (.bipush 101, 2) := by decide +kernel
theorem dX11_goSteps_47 : decode cX11_goSteps 47 = .ok (.goto 5, 3) := by decide +kernel
theorem dX11_goSteps_50 : decode cX11_goSteps 50 = .ok (.bipush 114, 2) := by decide +kernel
theorem dX11_goSteps_52 : decode cX11_goSteps 52 = .ok (.castore, 1) := by decide +kernel
theorem dX11_goSteps_53 : decode cX11_goSteps 53 = .ok (.iinc 1 1, 3) := by decide +kernel
theorem dX11_goSteps_56 : decode cX11_goSteps 56 = .ok (.goto (-54), 3) := by decide +kernel
theorem dX11_goSteps_59 : decode cX11_goSteps 59 = .ok (.iconst 0, 1) := by decide +kernel
theorem dX11_goSteps_60 : decode cX11_goSteps 60 = .ok (.istore_n 1, 1) := by decide +kernel
theorem dX11_goSteps_61 : decode cX11_goSteps 61 = .ok (.iload_n 1, 1) := by decide +kernel
theorem dX11_goSteps_62 : decode cX11_goSteps 62 = .ok (.aload_n 0, 1) := by decide +kernel
theorem dX11_goSteps_63 : decode cX11_goSteps 63 = .ok (.getfield 162, 3) := by decide +kernel
theorem dX11_goSteps_66 : decode cX11_goSteps 66 = .ok (.if_icmp .ge 66, 3) := by decide +kernel
theorem dX11_goSteps_69 : decode cX11_goSteps 69 = .ok (.aload_n 0, 1) := by decide +kernel
theorem dX11_goSteps_70 : decode cX11_goSteps 70 = .ok (.getfield 46, 3) := by decide +kernel
theorem dX11_goSteps_73 : decode cX11_goSteps 73 = .ok (.iload_n 1, 1) := by decide +kernel
theorem dX11_goSteps_74 : decode cX11_goSteps 74 = .ok (.caload, 1) := by decide +kernel
theorem dX11_goSteps_75 : decode cX11_goSteps 75 = .ok (.bipush 45, 2) := by decide +kernel
theorem dX11_goSteps_77 : decode cX11_goSteps 77 = .ok (.if_icmp .ne 49, 3) := by decide +kernel
theorem dX11_goSteps_80 : decode cX11_goSteps 80 = .ok (.aload_n 0, 1) := by decide +kernel
theorem dX11_goSteps_81 : decode cX11_goSteps 81 = .ok (.getfield 37, 3) := by decide +kernel
theorem dX11_goSteps_84 : decode cX11_goSteps 84 = .ok (.iload_n 1, 1) := by decide +kernel
theorem dX11_goSteps_85 : decode cX11_goSteps 85 = .ok (.iaload, 1) := by decide +kernel
theorem dX11_goSteps_86 : decode cX11_goSteps 86 = .ok (.aload_n 0, 1) := by decide +kernel
theorem dX11_goSteps_87 : decode cX11_goSteps 87 = .ok (.getfield 245, 3) := by decide +kernel
theorem dX11_goSteps_90 : decode cX11_goSteps 90 = .ok (.if_icmp .gt 36, 3) := by decide +kernel
theorem dX11_goSteps_93 : decode cX11_goSteps 93 = .ok (.aload_n 0, 1) := by decide +kernel
theorem dX11_goSteps_94 : decode cX11_goSteps 94 = .ok (.aload_n 0, 1) := by decide +kernel
theorem dX11_goSteps_95 : decode cX11_goSteps 95 = .ok (.getfield 43, 3) := by decide +kernel
theorem dX11_goSteps_98 : decode cX11_goSteps 98 = .ok (.iload_n 1, 1) := by decide +kernel
theorem dX11_goSteps_99 : decode cX11_goSteps 99 = .ok (.iaload, 1) := by decide +kernel
theorem dX11_goSteps_100 : decode cX11_goSteps 100 = .ok (.invokevirtual 294, 3) := by decide +kernel
theorem dX11_goSteps_103 : decode cX11_goSteps 103 = .ok (.ifCond .eq 23, 3) := by decide +kernel
theorem dX11_goSteps_106 : decode cX11_goSteps 106 = .ok (.aload_n 0, 1) := by decide +kernel
theorem dX11_goSteps_107 : decode cX11_goSteps 107 = .ok (.getfield 46, 3) := by decide +kernel
theorem dX11_goSteps_110 : decode cX11_goSteps 110 = .ok (.iload_n 1, 1) := by decide +kernel
theorem dX11_goSteps_111 : decode cX11_goSteps 111 = .ok (.bipush 114, 2) := by decide +kernel
theorem dX11_goSteps_113 : decode cX11_goSteps 113 = .ok (.castore, 1) := by decide +kernel
theorem dX11_goSteps_114 : decode cX11_goSteps 114 = .ok (.aload_n 0, 1) := by decide +kernel
theorem dX11_goSteps_115 : decode cX11_goSteps 115 = .ok (.getfield 50, 3) := by decide +kernel
theorem dX11_goSteps_118 : decode cX11_goSteps 118 = .ok (.iload_n 1, 1) := by decide +kernel
theorem dX11_goSteps_119 : decode cX11_goSteps 119 = .ok (.aload_n 0, 1) := by decide +kernel
theorem dX11_goSteps_120 : decode cX11_goSteps 120 = .ok (.getfield 40, 3) := by decide +kernel
theorem dX11_goSteps_123 : decode cX11_goSteps 123 = .ok (.iload_n 1, 1) := by decide +kernel
theorem dX11_goSteps_124 : decode cX11_goSteps 124 = .ok (.iaload, 1) := by decide +kernel
theorem dX11_goSteps_125 : decode cX11_goSteps 125 = .ok (.iastore, 1) := by decide +kernel
theorem dX11_goSteps_126 : decode cX11_goSteps 126 = .ok (.iinc 1 1, 3) := by decide +kernel
theorem dX11_goSteps_129 : decode cX11_goSteps 129 = .ok (.goto (-68), 3) := by decide +kernel
theorem dX11_goSteps_132 : decode cX11_goSteps 132 = .ok (.return_, 1) := by decide +kernel
theorem dX11_why_0 : decode cX11_why 0 = .ok (.iconst 0, 1) := by decide +kernel
theorem dX11_why_1 : decode cX11_why 1 = .ok (.istore_n 1, 1) := by decide +kernel
theorem dX11_why_2 : decode cX11_why 2 = .ok (.iload_n 1, 1) := by decide +kernel
theorem dX11_why_3 : decode cX11_why 3 = .ok (.aload_n 0, 1) := by decide +kernel
theorem dX11_why_4 : decode cX11_why 4 = .ok (.getfield 232, 3) := by decide +kernel
theorem dX11_why_7 : decode cX11_why 7 = .ok (.if_icmp .ge 29, 3) := by decide +kernel
theorem dX11_why_10 : decode cX11_why 10 = .ok (.aload_n 0, 1) := by decide +kernel
theorem dX11_why_11 : decode cX11_why 11 = .ok (.iload_n 1, 1) := by decide +kernel
theorem dX11_why_12 : decode cX11_why 12 = .ok (.invokevirtual 257, 3) := by decide +kernel
theorem dX11_why_15 : decode cX11_why 15 = .ok (.ifCond .ne 15, 3) := by decide +kernel
theorem dX11_why_18 : decode cX11_why 18 = .ok (.aload_n 0, 1) := by decide +kernel
theorem dX11_why_19 : decode cX11_why 19 = .ok (.iload_n 1, 1) := by decide +kernel
theorem dX11_why_20 : decode cX11_why 20 = .ok (.putfield 13, 3) := by decide +kernel
theorem dX11_why_23 : decode cX11_why 23 = .ok (.aload_n 0, 1) := by decide +kernel
theorem dX11_why_24 : decode cX11_why 24 = .ok (.getfield 83, 3) := by decide +kernel
theorem dX11_why_27 : decode cX11_why 27 = .ok (.iload_n 1, 1) := by decide +kernel
theorem dX11_why_28 : decode cX11_why 28 = .ok (.caload, 1) := by decide +kernel
theorem dX11_why_29 : decode cX11_why 29 = .ok (.ireturn, 1) := by decide +kernel
theorem dX11_why_30 : decode cX11_why 30 = .ok (.iinc 1 1, 3) := by decide +kernel
theorem dX11_why_33 : decode cX11_why 33 = .ok (.goto (-31), 3) := by decide +kernel
theorem dX11_why_36 : decode cX11_why 36 = .ok (.aload_n 0, 1) := by decide +kernel
theorem dX11_why_37 : decode cX11_why 37 = .ok (.iconst (-1), 1) := by decide +kernel
theorem dX11_why_38 : decode cX11_why 38 = .ok (.putfield 13, 3) := by decide +kernel
theorem dX11_why_41 : decode cX11_why 41 = .ok (.aload_n 0, 1) := by decide +kernel
theorem dX11_why_42 : decode cX11_why 42 = .ok (.aload_n 0, 1) := by decide +kernel
theorem dX11_why_43 : decode cX11_why 43 = .ok (.getfield 245, 3) := by decide +kernel
theorem dX11_why_46 : decode cX11_why 46 = .ok (.invokevirtual 184, 3) := by decide +kernel
theorem dX11_why_49 : decode cX11_why 49 = .ok (.istore_n 1, 1) := by decide +kernel
theorem dX11_why_50 : decode cX11_why 50 = .ok (.iload_n 1, 1) := by decide +kernel
theorem dX11_why_51 : decode cX11_why 51 = .ok (.iconst (-1), 1) := by decide +kernel
theorem dX11_why_52 : decode cX11_why 52 = .ok (.if_icmp .eq 32, 3) := by decide +kernel
theorem dX11_why_55 : decode cX11_why 55 = .ok (.aload_n 0, 1) := by decide +kernel
theorem dX11_why_56 : decode cX11_why 56 = .ok (.aload_n 0, 1) := by decide +kernel
theorem dX11_why_57 : decode cX11_why 57 = .ok (.getfield 59, 3) := by decide +kernel
theorem dX11_why_60 : decode cX11_why 60 = .ok (.iload_n 1, 1) := by decide +kernel
theorem dX11_why_61 : decode cX11_why 61 = .ok (.iaload, 1) := by decide +kernel
theorem dX11_why_62 : decode cX11_why 62 = .ok (.invokevirtual 294, 3) := by decide +kernel
theorem dX11_why_65 : decode cX11_why 65 = .ok (.ifCond .eq 16, 3) := by decide +kernel
theorem dX11_why_68 : decode cX11_why 68 = .ok (.aload_n 0, 1) := by decide +kernel
theorem dX11_why_69 : decode cX11_why 69 = .ok (.getfield 274, 3) := by decide +kernel
theorem dX11_why_72 : decode cX11_why 72 = .ok (.aload_n 0, 1) := by decide +kernel
theorem dX11_why_73 : decode cX11_why 73 = .ok (.getfield 56, 3) := by decide +kernel
theorem dX11_why_76 : decode cX11_why 76 = .ok (.iload_n 1, 1) := by decide +kernel
theorem dX11_why_77 : decode cX11_why 77 = .ok (.iaload, 1) := by decide +kernel
theorem dX11_why_78 : decode cX11_why 78 = .ok (.if_icmp .ge 6, 3) := by decide +kernel
theorem dX11_why_81 : decode cX11_why 81 = .ok (.bipush 109, 2) := by decide +kernel
theorem dX11_why_83 : decode cX11_why 83 = .ok (.ireturn, 1) := by decide +kernel
theorem dX11_why_84 : decode cX11_why 84 = .ok (.aload_n 0, 1) := by decide +kernel
theorem dX11_why_85 : decode cX11_why 85 = .ok (.getfield 245, 3) := by decide +kernel
theorem dX11_why_88 : decode cX11_why 88 = .ok (.iconst (-1), 1) := by decide +kernel
theorem dX11_why_89 : decode cX11_why 89 = .ok (.if_icmp .ne 23, 3) := by decide +kernel
theorem dX11_why_92 : decode cX11_why 92 = .ok (.aload_n 0, 1) := by decide +kernel
theorem dX11_why_93 : decode cX11_why 93 = .ok (.getfield 120, 3) := by decide +kernel
theorem dX11_why_96 : decode cX11_why 96 = .ok (.iconst 1, 1) := by decide +kernel
theorem dX11_why_97 : decode cX11_why 97 = .ok (.iadd, 1) := by decide +kernel
theorem dX11_why_98 : decode cX11_why 98 = .ok (.i2l, 1) := by decide +kernel
theorem dX11_why_99 : decode cX11_why 99 = .ok (.aload_n 0, 1) := by decide +kernel
theorem dX11_why_100 : decode cX11_why 100 = .ok (.getfield 264, 3) := by decide +kernel
theorem dX11_why_103 : decode cX11_why 103 = .ok (.lcmp, 1) := by decide +kernel
theorem dX11_why_104 : decode cX11_why 104 = .ok (.ifCond .ge 8, 3) := by decide +kernel
theorem dX11_why_107 : decode cX11_why 107 = .ok (.bipush 111, 2) := by decide +kernel
theorem dX11_why_109 : decode cX11_why 109 = .ok (.goto 4, 3) := by decide +kernel
theorem dX11_why_112 : decode cX11_why 112 = .ok (.iconst 0, 1) := by decide +kernel
theorem dX11_why_113 : decode cX11_why 113 = .ok (.ireturn, 1) := by decide +kernel
theorem dX11_goCount_0 : decode cX11_goCount 0 = .ok (.aload_n 0, 1) := by decide +kernel
theorem dX11_goCount_1 : decode cX11_goCount 1 = .ok (.aload_n 0, 1) := by decide +kernel
theorem dX11_goCount_2 : decode cX11_goCount 2 = .ok (.invokevirtual 297, 3) := by decide +kernel
theorem dX11_goCount_5 : decode cX11_goCount 5 = .ok (.putfield 277, 3) := by decide +kernel
theorem dX11_goCount_8 : decode cX11_goCount 8 = .ok (.aload_n 0, 1) := by decide +kernel
theorem dX11_goCount_9 : decode cX11_goCount 9 = .ok (.getfield 277, 3) := by decide +kernel
theorem dX11_goCount_12 : decode cX11_goCount 12 = .ok (.ifCond .eq 70, 3) := by decide +kernel
theorem dX11_goCount_15 : decode cX11_goCount 15 = .ok (.aload_n 0, 1) := by decide +kernel
theorem dX11_goCount_16 : decode cX11_goCount 16 = .ok (.dup, 1) := by decide +kernel
theorem dX11_goCount_17 : decode cX11_goCount 17 = .ok (.getfield 271, 3) := by decide +kernel
theorem dX11_goCount_20 : decode cX11_goCount 20 = .ok (.iconst 1, 1) := by decide +kernel
theorem dX11_goCount_21 : decode cX11_goCount 21 = .ok (.iadd, 1) := by decide +kernel
theorem dX11_goCount_22 : decode cX11_goCount 22 = .ok (.putfield 271, 3) := by decide +kernel
theorem dX11_goCount_25 : decode cX11_goCount 25 = .ok (.aload_n 0, 1) := by decide +kernel
theorem dX11_goCount_26 : decode cX11_goCount 26 = .ok (.dup, 1) := by decide +kernel
theorem dX11_goCount_27 : decode cX11_goCount 27 = .ok (.getfield 274, 3) := by decide +kernel
theorem dX11_goCount_30 : decode cX11_goCount 30 = .ok (.iconst 1, 1) := by decide +kernel
theorem dX11_goCount_31 : decode cX11_goCount 31 = .ok (.iadd, 1) := by decide +kernel
theorem dX11_goCount_32 : decode cX11_goCount 32 = .ok (.putfield 274, 3) := by decide +kernel
theorem dX11_goCount_35 : decode cX11_goCount 35 = .ok (.aload_n 0, 1) := by decide +kernel
theorem dX11_goCount_36 : decode cX11_goCount 36 = .ok (.getfield 280, 3) := by decide +kernel
theorem dX11_goCount_39 : decode cX11_goCount 39 = .ok (.ifCond .ne 19, 3) := by decide +kernel
theorem dX11_goCount_42 : decode cX11_goCount 42 = .ok (.aload_n 0, 1) := by decide +kernel
theorem dX11_goCount_43 : decode cX11_goCount 43 = .ok (.aload_n 0, 1) := by decide +kernel
theorem dX11_goCount_44 : decode cX11_goCount 44 = .ok (.getfield 277, 3) := by decide +kernel
theorem dX11_goCount_47 : decode cX11_goCount 47 = .ok (.putfield 280, 3) := by decide +kernel
theorem dX11_goCount_50 : decode cX11_goCount 50 = .ok (.aload_n 0, 1) := by decide +kernel
theorem dX11_goCount_51 : decode cX11_goCount 51 = .ok (.aload_n 0, 1) := by decide +kernel
theorem dX11_goCount_52 : decode cX11_goCount 52 = .ok (.getfield 13, 3) := by decide +kernel
theorem dX11_goCount_55 : decode cX11_goCount 55 = .ok (.putfield 17, 3) := by decide +kernel
theorem dX11_goCount_58 : decode cX11_goCount 58 = .ok (.aload_n 0, 1) := by decide +kernel
theorem dX11_goCount_59 : decode cX11_goCount 59 = .ok (.getfield 7, 3) := by decide +kernel
theorem dX11_goCount_62 : decode cX11_goCount 62 = .ok (.bipush 99, 2) := by decide +kernel
theorem dX11_goCount_64 : decode cX11_goCount 64 = .ok (.if_icmp .ne 54, 3) := by decide +kernel
theorem dX11_goCount_67 : decode cX11_goCount 67 = .ok (.aload_n 0, 1) := by decide +kernel
theorem dX11_goCount_68 : decode cX11_goCount 68 = .ok (.bipush 104, 2) := by decide +kernel
theorem dX11_goCount_70 : decode cX11_goCount 70 = .ok (.putfield 7, 3) := by decide +kernel
theorem dX11_goCount_73 : decode cX11_goCount 73 = .ok (.aload_n 0, 1) := by decide +kernel
theorem dX11_goCount_74 : decode cX11_goCount 74 = .ok (.bipush 72, 2) := by decide +kernel
theorem dX11_goCount_76 : decode cX11_goCount 76 = .ok (.invokevirtual 286, 3) := by decide +kernel
theorem dX11_goCount_79 : decode cX11_goCount 79 = .ok (.goto 39, 3) := by decide +kernel
theorem dX11_goCount_82 : decode cX11_goCount 82 = .ok (.aload_n 0, 1) := by decide +kernel
theorem dX11_goCount_83 : decode cX11_goCount 83 = .ok (.getfield 7, 3) := by decide +kernel
theorem dX11_goCount_86 : decode cX11_goCount 86 = .ok (.bipush 104, 2) := by decide +kernel
theorem dX11_goCount_88 : decode cX11_goCount 88 = .ok (.if_icmp .ne 15, 3) := by decide +kernel
theorem dX11_goCount_91 : decode cX11_goCount 91 = .ok (.aload_n 0, 1) := by decide +kernel
theorem dX11_goCount_92 : decode cX11_goCount 92 = .ok (.bipush 99, 2) := by decide +kernel
theorem dX11_goCount_94 : decode cX11_goCount 94 = .ok (.putfield 7, 3) := by decide +kernel
theorem dX11_goCount_97 : decode cX11_goCount 97 = .ok (.aload_n 0, 1) := by decide +kernel
theorem dX11_goCount_98 : decode cX11_goCount 98 = .ok (.bipush 71, 2) := by decide +kernel
theorem dX11_goCount_100 : decode cX11_goCount 100 = .ok (.invokevirtual 286, 3) := by decide +kernel
theorem dX11_goCount_103 : decode cX11_goCount 103 = .ok (.aload_n 0, 1) := by decide +kernel
theorem dX11_goCount_104 : decode cX11_goCount 104 = .ok (.dup, 1) := by decide +kernel
theorem dX11_goCount_105 : decode cX11_goCount 105 = .ok (.getfield 245, 3) := by decide +kernel
theorem dX11_goCount_108 : decode cX11_goCount 108 = .ok (.iconst 1, 1) := by decide +kernel
theorem dX11_goCount_109 : decode cX11_goCount 109 = .ok (.iadd, 1) := by decide +kernel
theorem dX11_goCount_110 : decode cX11_goCount 110 = .ok (.putfield 245, 3) := by decide +kernel
theorem dX11_goCount_113 : decode cX11_goCount 113 = .ok (.aload_n 0, 1) := by decide +kernel
theorem dX11_goCount_114 : decode cX11_goCount 114 = .ok (.iconst 0, 1) := by decide +kernel
theorem dX11_goCount_115 : decode cX11_goCount 115 = .ok (.putfield 274, 3) := by decide +kernel
theorem dX11_goCount_118 : decode cX11_goCount 118 = .ok (.aload_n 0, 1) := by decide +kernel
theorem dX11_goCount_119 : decode cX11_goCount 119 = .ok (.getfield 120, 3) := by decide +kernel
theorem dX11_goCount_122 : decode cX11_goCount 122 = .ok (.i2l, 1) := by decide +kernel
theorem dX11_goCount_123 : decode cX11_goCount 123 = .ok (.lconst 1, 1) := by decide +kernel
theorem dX11_goCount_124 : decode cX11_goCount 124 = .ok (.ladd, 1) := by decide +kernel
theorem dX11_goCount_125 : decode cX11_goCount 125 = .ok (.aload_n 0, 1) := by decide +kernel
theorem dX11_goCount_126 : decode cX11_goCount 126 = .ok (.getfield 245, 3) := by decide +kernel
theorem dX11_goCount_129 : decode cX11_goCount 129 = .ok (.i2l, 1) := by decide +kernel
theorem dX11_goCount_130 : decode cX11_goCount 130 = .ok (.lsub, 1) := by decide +kernel
theorem dX11_goCount_131 : decode cX11_goCount 131 = .ok (.aload_n 0, 1) := by decide +kernel
theorem dX11_goCount_132 : decode cX11_goCount 132 = .ok (.getfield 268, 3) := by decide +kernel
theorem dX11_goCount_135 : decode cX11_goCount 135 = .ok (.lcmp, 1) := by decide +kernel
theorem dX11_goCount_136 : decode cX11_goCount 136 = .ok (.ifCond .le 30, 3) := by decide +kernel
theorem dX11_goCount_139 : decode cX11_goCount 139 = .ok (.aload_n 0, 1) := by decide +kernel
theorem dX11_goCount_140 : decode cX11_goCount 140 = .ok (.aload_n 0, 1) := by decide +kernel
theorem dX11_goCount_141 : decode cX11_goCount 141 = .ok (.getfield 280, 3) := by decide +kernel
theorem dX11_goCount_144 : decode cX11_goCount 144 = .ok (.ifCond .ne 8, 3) := by decide +kernel
theorem dX11_goCount_147 : decode cX11_goCount 147 = .ok (.bipush 111, 2) := by decide +kernel
theorem dX11_goCount_149 : decode cX11_goCount 149 = .ok (.goto 7, 3) := by decide +kernel
theorem dX11_goCount_152 : decode cX11_goCount 152 = .ok (.aload_n 0, 1) := by decide +kernel
theorem dX11_goCount_153 : decode cX11_goCount 153 = .ok (.getfield 280, 3) := by decide +kernel
theorem dX11_goCount_156 : decode cX11_goCount 156 = .ok (.aload_n 0, 1) := by decide +kernel
theorem dX11_goCount_157 : decode cX11_goCount 157 = .ok (.getfield 17, 3) := by decide +kernel
theorem dX11_goCount_160 : decode cX11_goCount 160 = .ok (.invokevirtual 290, 3) := by decide +kernel
theorem dX11_goCount_163 : decode cX11_goCount 163 = .ok (.goto 32, 3) := by decide +kernel
theorem dX11_goCount_166 : decode cX11_goCount 166 = .ok (.aload_n 0, 1) := by decide +kernel
theorem dX11_goCount_167 : decode cX11_goCount 167 = .ok (.getfield 245, 3) := by decide +kernel
theorem dX11_goCount_170 : decode cX11_goCount 170 = .ok (.ifCond .ne 25, 3) := by decide +kernel
theorem dX11_goCount_173 : decode cX11_goCount 173 = .ok (.aload_n 0, 1) := by decide +kernel
theorem dX11_goCount_174 : decode cX11_goCount 174 = .ok (.bipush 102, 2) := by decide +kernel
theorem dX11_goCount_176 : decode cX11_goCount 176 = .ok (.putfield 7, 3) := by decide +kernel
theorem dX11_goCount_179 : decode cX11_goCount 179 = .ok (.aload_n 0, 1) := by decide +kernel
theorem dX11_goCount_180 : decode cX11_goCount 180 = .ok (.iconst 0, 1) := by decide +kernel
theorem dX11_goCount_181 : decode cX11_goCount 181 = .ok (.putfield 301, 3) := by decide +kernel
theorem dX11_goCount_184 : decode cX11_goCount 184 = .ok (.aload_n 0, 1) := by decide +kernel
theorem dX11_goCount_185 : decode cX11_goCount 185 = .ok (.iconst 0, 1) := by decide +kernel
theorem dX11_goCount_186 : decode cX11_goCount 186 = .ok (.putfield 304, 3) := by decide +kernel
theorem dX11_goCount_189 : decode cX11_goCount 189 = .ok (.aload_n 0, 1) := by decide +kernel
theorem dX11_goCount_190 : decode cX11_goCount 190 = .ok (.bipush 70, 2) := by decide +kernel
theorem dX11_goCount_192 : decode cX11_goCount 192 = .ok (.invokevirtual 286, 3) := by decide +kernel
theorem dX11_goCount_195 : decode cX11_goCount 195 = .ok (.return_, 1) := by decide +kernel
theorem dX11_goFlight_0 : decode cX11_goFlight 0 = .ok (.aload_n 0, 1) := by decide +kernel
theorem dX11_goFlight_1 : decode cX11_goFlight 1 = .ok (.dup, 1) := by decide +kernel
theorem dX11_goFlight_2 : decode cX11_goFlight 2 = .ok (.getfield 301, 3) := by decide +kernel
theorem dX11_goFlight_5 : decode cX11_goFlight 5 = .ok (.iconst 1, 1) := by decide +kernel
theorem dX11_goFlight_6 : decode cX11_goFlight 6 = .ok (.iadd, 1) := by decide +kernel
theorem dX11_goFlight_7 : decode cX11_goFlight 7 = .ok (.putfield 301, 3) := by decide +kernel
theorem dX11_goFlight_10 : decode cX11_goFlight 10 = .ok (.aload_n 0, 1) := by decide +kernel
theorem dX11_goFlight_11 : decode cX11_goFlight 11 = .ok (.aload_n 0, 1) := by decide +kernel
theorem dX11_goFlight_12 : decode cX11_goFlight 12 = .ok (.getfield 301, 3) := by decide +kernel
theorem dX11_goFlight_15 : decode cX11_goFlight 15 = .ok (.putfield 245, 3) := by decide +kernel
theorem dX11_goFlight_18 : decode cX11_goFlight 18 = .ok (.aload_n 0, 1) := by decide +kernel
theorem dX11_goFlight_19 : decode cX11_goFlight 19 = .ok (.getfield 80, 3) := by decide +kernel
theorem dX11_goFlight_22 : decode cX11_goFlight 22 = .ok (.iconst 0, 1) := by decide +kernel
theorem dX11_goFlight_23 : decode cX11_goFlight 23 = .ok (.iaload, 1) := by decide +kernel
theorem dX11_goFlight_24 : decode cX11_goFlight 24 = .ok (.invokestatic 307, 3) := by decide +kernel
theorem dX11_goFlight_27 : decode cX11_goFlight 27 = .ok (.bipush 100, 2) := by decide +kernel
theorem dX11_goFlight_29 : decode cX11_goFlight 29 = .ok (.if_icmp .le 21, 3) := by decide +kernel
theorem dX11_goFlight_32 : decode cX11_goFlight 32 = .ok (.aload_n 0, 1) := by decide +kernel
theorem dX11_goFlight_33 : decode cX11_goFlight 33 = .ok (.getfield 80, 3) := by decide +kernel
theorem dX11_goFlight_36 : decode cX11_goFlight 36 = .ok (.iconst 1, 1) := by decide +kernel
theorem dX11_goFlight_37 : decode cX11_goFlight 37 = .ok (.iaload, 1) := by decide +kernel
theorem dX11_goFlight_38 : decode cX11_goFlight 38 = .ok (.invokestatic 307, 3) := by decide +kernel
theorem dX11_goFlight_41 : decode cX11_goFlight 41 = .ok (.bipush 100, 2) := by decide +kernel
theorem dX11_goFlight_43 : decode cX11_goFlight 43 = .ok (.if_icmp .le 7, 3) := by decide +kernel
theorem dX11_goFlight_46 : decode cX11_goFlight 46 = .ok (.iconst 1, 1) := by decide +kernel
theorem dX11_goFlight_47 : decode cX11_goFlight 47 = .ok (.goto 4, 3) := by decide +kernel
theorem dX11_goFlight_50 : decode cX11_goFlight 50 = .ok (.iconst 0, 1) := by decide +kernel
theorem dX11_goFlight_51 : decode cX11_goFlight 51 = .ok (.istore_n 1, 1) := by decide +kernel
theorem dX11_goFlight_52 : decode cX11_goFlight 52 = .ok (.aload_n 0, 1) := by decide +kernel
theorem dX11_goFlight_53 : decode cX11_goFlight 53 = .ok (.aload_n 0, 1) := by decide +kernel
theorem dX11_goFlight_54 : decode cX11_goFlight 54 = .ok (.getfield 80, 3) := by decide +kernel
theorem dX11_goFlight_57 : decode cX11_goFlight 57 = .ok (.iconst 0, 1) := by decide +kernel
theorem dX11_goFlight_58 : decode cX11_goFlight 58 = .ok (.iaload, 1) := by decide +kernel
theorem dX11_goFlight_59 : decode cX11_goFlight 59 = .ok (.aload_n 0, 1) := by decide +kernel
theorem dX11_goFlight_60 : decode cX11_goFlight 60 = .ok (.getfield 80, 3) := by decide +kernel
theorem dX11_goFlight_63 : decode cX11_goFlight 63 = .ok (.iconst 1, 1) := by decide +kernel
theorem dX11_goFlight_64 : decode cX11_goFlight 64 = .ok (.iaload, 1) := by decide +kernel
theorem dX11_goFlight_65 : decode cX11_goFlight 65 = .ok (.isub, 1) := by decide +kernel
theorem dX11_goFlight_66 : decode cX11_goFlight 66 = .ok (.invokestatic 307, 3) := by decide +kernel
theorem dX11_goFlight_69 : decode cX11_goFlight 69 = .ok (.bipush 20, 2) := by decide +kernel
theorem dX11_goFlight_71 : decode cX11_goFlight 71 = .ok (.if_icmp .le 12, 3) := by decide +kernel
theorem dX11_goFlight_74 : decode cX11_goFlight 74 = .ok (.aload_n 0, 1) := by decide +kernel
theorem dX11_goFlight_75 : decode cX11_goFlight 75 = .ok (.getfield 304, 3) := by decide +kernel
theorem dX11_goFlight_78 : decode cX11_goFlight 78 = .ok (.iconst 1, 1) := by decide +kernel
theorem dX11_goFlight_79 : decode cX11_goFlight 79 = .ok (.iadd, 1) := by decide +kernel
theorem dX11_goFlight_80 : decode cX11_goFlight 80 = .ok (.goto 4, 3) := by decide +kernel
theorem dX11_goFlight_83 : decode cX11_goFlight 83 = .ok (.iconst 0, 1) := by decide +kernel
theorem dX11_goFlight_84 : decode cX11_goFlight 84 = .ok (.putfield 304, 3) := by decide +kernel
theorem dX11_goFlight_87 : decode cX11_goFlight 87 = .ok (.iload_n 1, 1) := by decide +kernel
theorem dX11_goFlight_88 : decode cX11_goFlight 88 = .ok (.ifCond .ne 11, 3) := by decide +kernel
theorem dX11_goFlight_91 : decode cX11_goFlight 91 = .ok (.aload_n 0, 1) := by decide +kernel
theorem dX11_goFlight_92 : decode cX11_goFlight 92 = .ok (.getfield 304, 3) := by decide +kernel
theorem dX11_goFlight_95 : decode cX11_goFlight 95 = .ok (.iconst 3, 1) := by decide +kernel
theorem dX11_goFlight_96 : decode cX11_goFlight 96 = .ok (.if_icmp .ne 38, 3) := by decide +kernel
theorem dX11_goFlight_99 : decode cX11_goFlight 99 = .ok (.aload_n 0, 1) := by decide +kernel
theorem dX11_goFlight_100 : decode cX11_goFlight 100 = .ok (.bipush 120, 2) := by decide +kernel
theorem dX11_goFlight_102 : decode cX11_goFlight 102 = .ok (.putfield 7, 3) := by decide +kernel
theorem dX11_goFlight_105 : decode cX11_goFlight 105 = .ok (.aload_n 0, 1) := by decide +kernel
theorem dX11_goFlight_106 : decode cX11_goFlight 106 = .ok (.iload_n 1, 1) := by decide +kernel
theorem dX11_goFlight_107 : decode cX11_goFlight 107 = .ok (.ifCond .eq 8, 3) := by decide +kernel
theorem dX11_goFlight_110 : decode cX11_goFlight 110 = .ok (.bipush 100, 2) := by decide +kernel
theorem dX11_goFlight_112 : decode cX11_goFlight 112 = .ok (.goto 5, 3) := by decide +kernel
theorem dX11_goFlight_115 : decode cX11_goFlight 115 = .ok (.bipush 114, 2) := by decide +kernel
theorem dX11_goFlight_117 : decode cX11_goFlight 117 = .ok (.putfield 277, 3) := by decide +kernel
theorem dX11_goFlight_120 : decode cX11_goFlight 120 = .ok (.aload_n 0, 1) := by decide +kernel
theorem dX11_goFlight_121 : decode cX11_goFlight 121 = .ok (.iconst (-1), 1) := by decide +kernel
theorem dX11_goFlight_122 : decode cX11_goFlight 122 = .ok (.putfield 13, 3) := by decide +kernel
theorem dX11_goFlight_125 : decode cX11_goFlight 125 = .ok (.aload_n 0, 1) := by decide +kernel
theorem dX11_goFlight_126 : decode cX11_goFlight 126 = .ok (.bipush 88, 2) := by decide +kernel
theorem dX11_goFlight_128 : decode cX11_goFlight 128 = .ok (.invokevirtual 286, 3) := by decide +kernel
theorem dX11_goFlight_131 : decode cX11_goFlight 131 = .ok (.goto 24, 3) := by decide +kernel
theorem dX11_goFlight_134 : decode cX11_goFlight 134 = .ok (.aload_n 0, 1) := by decide +kernel
theorem dX11_goFlight_135 : decode cX11_goFlight 135 = .ok (.getfield 301, 3) := by decide +kernel
theorem dX11_goFlight_138 : decode cX11_goFlight 138 = .ok (.bipush 60, 2) := by decide +kernel
theorem dX11_goFlight_140 : decode cX11_goFlight 140 = .ok (.if_icmp .ne 15, 3) := by decide +kernel
theorem dX11_goFlight_143 : decode cX11_goFlight 143 = .ok (.aload_n 0, 1) := by decide +kernel
theorem dX11_goFlight_144 : decode cX11_goFlight 144 = .ok (.bipush 111, 2) := by decide +kernel
theorem dX11_goFlight_146 : decode cX11_goFlight 146 = .ok (.putfield 7, 3) := by decide +kernel
theorem dX11_goFlight_149 : decode cX11_goFlight 149 = .ok (.aload_n 0, 1) := by decide +kernel
theorem dX11_goFlight_150 : decode cX11_goFlight 150 = .ok (.bipush 79, 2) := by decide +kernel
theorem dX11_goFlight_152 : decode cX11_goFlight 152 = .ok (.invokevirtual 286, 3) := by decide +kernel
theorem dX11_goFlight_155 : decode cX11_goFlight 155 = .ok (.return_, 1) := by decide +kernel
theorem dX11_pass_0 : decode cX11_pass 0 = .ok (.aload_n 0, 1) := by decide +kernel
theorem dX11_pass_1 : decode cX11_pass 1 = .ok (.iconst 0, 1) := by decide +kernel
theorem dX11_pass_2 : decode cX11_pass 2 = .ok (.putfield 117, 3) := by decide +kernel
theorem dX11_pass_5 : decode cX11_pass 5 = .ok (.aload_n 0, 1) := by decide +kernel
theorem dX11_pass_6 : decode cX11_pass 6 = .ok (.iload_n 1, 1) := by decide +kernel
theorem dX11_pass_7 : decode cX11_pass 7 = .ok (.i2l, 1) := by decide +kernel
theorem dX11_pass_8 : decode cX11_pass 8 = .ok (.lconst 1, 1) := by decide +kernel
theorem dX11_pass_9 : decode cX11_pass 9 = .ok (.ldc2_w 310, 3) := by decide +kernel
theorem dX11_pass_12 : decode cX11_pass 12 = .ok (.invokestatic 132, 3) := by decide +kernel
theorem dX11_pass_15 : decode cX11_pass 15 = .ok (.ifCond .ne 7, 3) := by decide +kernel
theorem dX11_pass_18 : decode cX11_pass 18 = .ok (.iconst 1, 1) := by decide +kernel
theorem dX11_pass_19 : decode cX11_pass 19 = .ok (.goto 4, 3) := by decide +kernel
theorem dX11_pass_22 : decode cX11_pass 22 = .ok (.iconst 0, 1) := by decide +kernel
theorem dX11_pass_23 : decode cX11_pass 23 = .ok (.iconst 1, 1) := by decide +kernel
theorem dX11_pass_24 : decode cX11_pass 24 = .ok (.invokevirtual 146, 3) := by decide +kernel
theorem dX11_pass_27 : decode cX11_pass 27 = .ok (.ifCond .ne 28, 3) := by decide +kernel
theorem dX11_pass_30 : decode cX11_pass 30 = .ok (.aload_n 0, 1) := by decide +kernel
theorem dX11_pass_31 : decode cX11_pass 31 = .ok (.aload_n 0, 1) := by decide +kernel
theorem dX11_pass_32 : decode cX11_pass 32 = .ok (.getfield 120, 3) := by decide +kernel
theorem dX11_pass_35 : decode cX11_pass 35 = .ok (.iload_n 1, 1) := by decide +kernel
theorem dX11_pass_36 : decode cX11_pass 36 = .ok (.iadd, 1) := by decide +kernel
theorem dX11_pass_37 : decode cX11_pass 37 = .ok (.ldc_w 312, 3) := by decide +kernel
theorem dX11_pass_40 : decode cX11_pass 40 = .ok (.if_icmp .le 7, 3) := by decide +kernel
theorem dX11_pass_43 : decode cX11_pass 43 = .ok (.iconst 1, 1) := by decide +kernel
theorem dX11_pass_44 : decode cX11_pass 44 = .ok (.goto 4, 3) := by decide +kernel
theorem dX11_pass_47 : decode cX11_pass 47 = .ok (.iconst 0, 1) := by decide +kernel
theorem dX11_pass_48 : decode cX11_pass 48 = .ok (.iconst 2, 1) := by decide +kernel
theorem dX11_pass_49 : decode cX11_pass 49 = .ok (.invokevirtual 146, 3) := by decide +kernel
theorem dX11_pass_52 : decode cX11_pass 52 = .ok (.ifCond .eq 5, 3) := by decide +kernel
theorem dX11_pass_55 : decode cX11_pass 55 = .ok (.iconst 0, 1) := by decide +kernel
theorem dX11_pass_56 : decode cX11_pass 56 = .ok (.ireturn, 1) := by decide +kernel
theorem dX11_pass_57 : decode cX11_pass 57 = .ok (.iconst 0, 1) := by decide +kernel
theorem dX11_pass_58 : decode cX11_pass 58 = .ok (.istore_n 2, 1) := by decide +kernel
theorem dX11_pass_59 : decode cX11_pass 59 = .ok (.iload_n 2, 1) := by decide +kernel
theorem dX11_pass_60 : decode cX11_pass 60 = .ok (.iload_n 1, 1) := by decide +kernel
theorem dX11_pass_61 : decode cX11_pass 61 = .ok (.if_icmp .ge 123, 3) := by decide +kernel
theorem dX11_pass_64 : decode cX11_pass 64 = .ok (.aload_n 0, 1) := by decide +kernel
theorem dX11_pass_65 : decode cX11_pass 65 = .ok (.invokevirtual 313, 3) := by decide +kernel
theorem dX11_pass_68 : decode cX11_pass 68 = .ok (.aload_n 0, 1) := by decide +kernel
theorem dX11_pass_69 : decode cX11_pass 69 = .ok (.invokevirtual 165, 3) := by decide +kernel
theorem dX11_pass_72 : decode cX11_pass 72 = .ok (.ifCond .eq 7, 3) := by decide +kernel
theorem dX11_pass_75 : decode cX11_pass 75 = .ok (.aload_n 0, 1) := by decide +kernel
theorem dX11_pass_76 : decode cX11_pass 76 = .ok (.invokevirtual 316, 3) := by decide +kernel
theorem dX11_pass_79 : decode cX11_pass 79 = .ok (.iconst 0, 1) := by decide +kernel
theorem dX11_pass_80 : decode cX11_pass 80 = .ok (.istore_n 3, 1) := by decide +kernel
theorem dX11_pass_81 : decode cX11_pass 81 = .ok (.iload_n 3, 1) := by decide +kernel
theorem dX11_pass_82 : decode cX11_pass 82 = .ok (.aload_n 0, 1) := by decide +kernel
theorem dX11_pass_83 : decode cX11_pass 83 = .ok (.getfield 232, 3) := by decide +kernel
theorem dX11_pass_86 : decode cX11_pass 86 = .ok (.if_icmp .ge 35, 3) := by decide +kernel
theorem dX11_pass_89 : decode cX11_pass 89 = .ok (.aload_n 0, 1) := by decide +kernel
theorem dX11_pass_90 : decode cX11_pass 90 = .ok (.getfield 98, 3) := by decide +kernel
theorem dX11_pass_93 : decode cX11_pass 93 = .ok (.iload_n 3, 1) := by decide +kernel
theorem dX11_pass_94 : decode cX11_pass 94 = .ok (.aload_n 0, 1) := by decide +kernel
theorem dX11_pass_95 : decode cX11_pass 95 = .ok (.iload_n 3, 1) := by decide +kernel
theorem dX11_pass_96 : decode cX11_pass 96 = .ok (.invokevirtual 254, 3) := by decide +kernel
theorem dX11_pass_99 : decode cX11_pass 99 = .ok (.ifCond .eq 14, 3) := by decide +kernel
theorem dX11_pass_102 : decode cX11_pass 102 = .ok (.aload_n 0, 1) := by decide +kernel
theorem dX11_pass_103 : decode cX11_pass 103 = .ok (.getfield 98, 3) := by decide +kernel
theorem dX11_pass_106 : decode cX11_pass 106 = .ok (.iload_n 3, 1) := by decide +kernel
theorem dX11_pass_107 : decode cX11_pass 107 = .ok (.iaload, 1) := by decide +kernel
theorem dX11_pass_108 : decode cX11_pass 108 = .ok (.iconst 1, 1) := by decide +kernel
theorem dX11_pass_109 : decode cX11_pass 109 = .ok (.iadd, 1) := by decide +kernel
theorem dX11_pass_110 : decode cX11_pass 110 = .ok (.goto 4, 3) := by decide +kernel
theorem dX11_pass_113 : decode cX11_pass 113 = .ok (.iconst 0, 1) := by decide +kernel
theorem dX11_pass_114 : decode cX11_pass 114 = .ok (.iastore, 1) := by decide +kernel
theorem dX11_pass_115 : decode cX11_pass 115 = .ok (.iinc 3 1, 3) := by decide +kernel
theorem dX11_pass_118 : decode cX11_pass 118 = .ok (.goto (-37), 3) := by decide +kernel
theorem dX11_pass_121 : decode cX11_pass 121 = .ok (.aload_n 0, 1) := by decide +kernel
theorem dX11_pass_122 : decode cX11_pass 122 = .ok (.invokevirtual 165, 3) := by decide +kernel
theorem dX11_pass_125 : decode cX11_pass 125 = .ok (.ifCond .eq 10, 3) := by decide +kernel
theorem dX11_pass_128 : decode cX11_pass 128 = .ok (.aload_n 0, 1) := by decide +kernel
theorem dX11_pass_129 : decode cX11_pass 129 = .ok (.invokevirtual 319, 3) := by decide +kernel
theorem dX11_pass_132 : decode cX11_pass 132 = .ok (.goto 36, 3) := by decide +kernel
theorem dX11_pass_135 : decode cX11_pass 135 = .ok (.aload_n 0, 1) := by decide +kernel
theorem dX11_pass_136 : decode cX11_pass 136 = .ok (.getfield 7, 3) := by decide +kernel
theorem dX11_pass_139 : decode cX11_pass 139 = .ok (.bipush 102, 2) := by decide +kernel
theorem dX11_pass_141 : decode cX11_pass 141 = .ok (.if_icmp .ne 10, 3) := by decide +kernel
theorem dX11_pass_144 : decode cX11_pass 144 = .ok (.aload_n 0, 1) := by decide +kernel
theorem dX11_pass_145 : decode cX11_pass 145 = .ok (.invokevirtual 322, 3) := by decide +kernel
theorem dX11_pass_148 : decode cX11_pass 148 = .ok (.goto 20, 3) := by decide +kernel
theorem dX11_pass_151 : decode cX11_pass 151 = .ok (.aload_n 0, 1) := by decide +kernel
theorem dX11_pass_152 : decode cX11_pass 152 = .ok (.invokevirtual 169, 3) := by decide +kernel
theorem dX11_pass_155 : decode cX11_pass 155 = .ok (.ifCond .eq 13, 3) := by decide +kernel
theorem dX11_pass_158 : decode cX11_pass 158 = .ok (.aload_n 0, 1) := by decide +kernel
theorem dX11_pass_159 : decode cX11_pass 159 = .ok (.dup, 1) := by decide +kernel
theorem dX11_pass_160 : decode cX11_pass 160 = .ok (.getfield 245, 3) := by decide +kernel
theorem dX11_pass_163 : decode cX11_pass 163 = .ok (.iconst 1, 1) := by decide +kernel
theorem dX11_pass_164 : decode cX11_pass 164 = .ok (.iadd, 1) := by decide +kernel
theorem dX11_pass_165 : decode cX11_pass 165 = .ok (.putfield 245, 3) := by decide +kernel
theorem dX11_pass_168 : decode cX11_pass 168 = .ok (.aload_n 0, 1) := by decide +kernel
theorem dX11_pass_169 : decode cX11_pass 169 = .ok (.dup, 1) := by decide +kernel
theorem dX11_pass_170 : decode cX11_pass 170 = .ok (.getfield 120, 3) := by decide +kernel
theorem dX11_pass_173 : decode cX11_pass 173 = .ok (.iconst 1, 1) := by decide +kernel
theorem dX11_pass_174 : decode cX11_pass 174 = .ok (.iadd, 1) := by decide +kernel
theorem dX11_pass_175 : decode cX11_pass 175 = .ok (.putfield 120, 3) := by decide +kernel
theorem dX11_pass_178 : decode cX11_pass 178 = .ok (.iinc 2 1, 3) := by decide +kernel
theorem dX11_pass_181 : decode cX11_pass 181 = .ok (.goto (-122), 3) := by decide +kernel
theorem dX11_pass_184 : decode cX11_pass 184 = .ok (.aload_n 0, 1) := by decide +kernel
theorem dX11_pass_185 : decode cX11_pass 185 = .ok (.getfield 120, 3) := by decide +kernel
theorem dX11_pass_188 : decode cX11_pass 188 = .ok (.ireturn, 1) := by decide +kernel
theorem dX11_track_0 : decode cX11_track 0 = .ok (.aload_n 0, 1) := by decide +kernel
theorem dX11_track_1 : decode cX11_track 1 = .ok (.iconst 0, 1) := by decide +kernel
theorem dX11_track_2 : decode cX11_track 2 = .ok (.putfield 117, 3) := by decide +kernel
theorem dX11_track_5 : decode cX11_track 5 = .ok (.aload_n 0, 1) := by decide +kernel
theorem dX11_track_6 : decode cX11_track 6 = .ok (.iload_n 1, 1) := by decide +kernel
theorem dX11_track_7 : decode cX11_track 7 = .ok (.i2l, 1) := by decide +kernel
theorem dX11_track_8 : decode cX11_track 8 = .ok (.lconst 0, 1) := by decide +kernel
theorem dX11_track_9 : decode cX11_track 9 = .ok (.lconst 1, 1) := by decide +kernel
theorem dX11_track_10 : decode cX11_track 10 = .ok (.invokestatic 132, 3) := by decide +kernel
theorem dX11_track_13 : decode cX11_track 13 = .ok (.ifCond .eq 17, 3) := by decide +kernel
theorem dX11_track_16 : decode cX11_track 16 = .ok (.iload_n 2, 1) := by decide +kernel
theorem dX11_track_17 : decode cX11_track 17 = .ok (.i2l, 1) := by decide +kernel
theorem dX11_track_18 : decode cX11_track 18 = .ok (.ldc2_w 325, 3) := by decide +kernel
theorem dX11_track_21 : decode cX11_track 21 = .ok (.ldc2_w 327, 3) := by decide +kernel
theorem dX11_track_24 : decode cX11_track 24 = .ok (.invokestatic 132, 3) := by decide +kernel
theorem dX11_track_27 : decode cX11_track 27 = .ok (.ifCond .ne 7, 3) := by decide +kernel
theorem dX11_track_30 : decode cX11_track 30 = .ok (.iconst 1, 1) := by decide +kernel
theorem dX11_track_31 : decode cX11_track 31 = .ok (.goto 4, 3) := by decide +kernel
theorem dX11_track_34 : decode cX11_track 34 = .ok (.iconst 0, 1) := by decide +kernel
theorem dX11_track_35 : decode cX11_track 35 = .ok (.iconst 1, 1) := by decide +kernel
theorem dX11_track_36 : decode cX11_track 36 = .ok (.invokevirtual 146, 3) := by decide +kernel
theorem dX11_track_39 : decode cX11_track 39 = .ok (.ifCond .eq 5, 3) := by decide +kernel
theorem dX11_track_42 : decode cX11_track 42 = .ok (.iconst 0, 1) := by decide +kernel
theorem dX11_track_43 : decode cX11_track 43 = .ok (.ireturn, 1) := by decide +kernel
theorem dX11_track_44 : decode cX11_track 44 = .ok (.aload_n 0, 1) := by decide +kernel
theorem dX11_track_45 : decode cX11_track 45 = .ok (.getfield 80, 3) := by decide +kernel
theorem dX11_track_48 : decode cX11_track 48 = .ok (.iload_n 1, 1) := by decide +kernel
theorem dX11_track_49 : decode cX11_track 49 = .ok (.iaload, 1) := by decide +kernel
theorem dX11_track_50 : decode cX11_track 50 = .ok (.istore_n 3, 1) := by decide +kernel
theorem dX11_track_51 : decode cX11_track 51 = .ok (.aload_n 0, 1) := by decide +kernel
theorem dX11_track_52 : decode cX11_track 52 = .ok (.getfield 80, 3) := by decide +kernel
theorem dX11_track_55 : decode cX11_track 55 = .ok (.iload_n 1, 1) := by decide +kernel
theorem dX11_track_56 : decode cX11_track 56 = .ok (.iload_n 2, 1) := by decide +kernel
theorem dX11_track_57 : decode cX11_track 57 = .ok (.iastore, 1) := by decide +kernel
theorem dX11_track_58 : decode cX11_track 58 = .ok (.iload_n 3, 1) := by decide +kernel
theorem dX11_track_59 : decode cX11_track 59 = .ok (.ireturn, 1) := by decide +kernel
theorem dX11_state_0 : decode cX11_state 0 = .ok (.aload_n 0, 1) := by decide +kernel
theorem dX11_state_1 : decode cX11_state 1 = .ok (.iconst 0, 1) := by decide +kernel
theorem dX11_state_2 : decode cX11_state 2 = .ok (.putfield 117, 3) := by decide +kernel
theorem dX11_state_5 : decode cX11_state 5 = .ok (.aload_n 0, 1) := by decide +kernel
theorem dX11_state_6 : decode cX11_state 6 = .ok (.getfield 7, 3) := by decide +kernel
theorem dX11_state_9 : decode cX11_state 9 = .ok (.ireturn, 1) := by decide +kernel
theorem dX11_count_0 : decode cX11_count 0 = .ok (.aload_n 0, 1) := by decide +kernel
theorem dX11_count_1 : decode cX11_count 1 = .ok (.iconst 0, 1) := by decide +kernel
theorem dX11_count_2 : decode cX11_count 2 = .ok (.putfield 117, 3) := by decide +kernel
theorem dX11_count_5 : decode cX11_count 5 = .ok (.aload_n 0, 1) := by decide +kernel
theorem dX11_count_6 : decode cX11_count 6 = .ok (.aload_n 0, 1) := by decide +kernel
theorem dX11_count_7 : decode cX11_count 7 = .ok (.getfield 241, 3) := by decide +kernel
theorem dX11_count_10 : decode cX11_count 10 = .ok (.ifCond .ne 7, 3) := by decide +kernel
theorem dX11_count_13 : decode cX11_count 13 = .ok (.iconst 1, 1) := by decide +kernel
theorem dX11_count_14 : decode cX11_count 14 = .ok (.goto 4, 3) := by decide +kernel
theorem dX11_count_17 : decode cX11_count 17 = .ok (.iconst 0, 1) := by decide +kernel
theorem dX11_count_18 : decode cX11_count 18 = .ok (.iconst 1, 1) := by decide +kernel
theorem dX11_count_19 : decode cX11_count 19 = .ok (.invokevirtual 146, 3) := by decide +kernel
theorem dX11_count_22 : decode cX11_count 22 = .ok (.ifCond .eq 7, 3) := by decide +kernel
theorem dX11_count_25 : decode cX11_count 25 = .ok (.iconst 0, 1) := by decide +kernel
theorem dX11_count_26 : decode cX11_count 26 = .ok (.goto 7, 3) := by decide +kernel
theorem dX11_count_29 : decode cX11_count 29 = .ok (.aload_n 0, 1) := by decide +kernel
theorem dX11_count_30 : decode cX11_count 30 = .ok (.getfield 245, 3) := by decide +kernel
theorem dX11_count_33 : decode cX11_count 33 = .ok (.ireturn, 1) := by decide +kernel
theorem dX11_second_0 : decode cX11_second 0 = .ok (.aload_n 0, 1) := by decide +kernel
theorem dX11_second_1 : decode cX11_second 1 = .ok (.iconst 0, 1) := by decide +kernel
theorem dX11_second_2 : decode cX11_second 2 = .ok (.putfield 117, 3) := by decide +kernel
theorem dX11_second_5 : decode cX11_second 5 = .ok (.aload_n 0, 1) := by decide +kernel
theorem dX11_second_6 : decode cX11_second 6 = .ok (.getfield 120, 3) := by decide +kernel
theorem dX11_second_9 : decode cX11_second 9 = .ok (.ireturn, 1) := by decide +kernel
theorem dX11_holds_0 : decode cX11_holds 0 = .ok (.aload_n 0, 1) := by decide +kernel
theorem dX11_holds_1 : decode cX11_holds 1 = .ok (.iconst 0, 1) := by decide +kernel
theorem dX11_holds_2 : decode cX11_holds 2 = .ok (.putfield 117, 3) := by decide +kernel
theorem dX11_holds_5 : decode cX11_holds 5 = .ok (.aload_n 0, 1) := by decide +kernel
theorem dX11_holds_6 : decode cX11_holds 6 = .ok (.aload_n 0, 1) := by decide +kernel
theorem dX11_holds_7 : decode cX11_holds 7 = .ok (.getfield 241, 3) := by decide +kernel
theorem dX11_holds_10 : decode cX11_holds 10 = .ok (.ifCond .ne 7, 3) := by decide +kernel
theorem dX11_holds_13 : decode cX11_holds 13 = .ok (.iconst 1, 1) := by decide +kernel
theorem dX11_holds_14 : decode cX11_holds 14 = .ok (.goto 4, 3) := by decide +kernel
theorem dX11_holds_17 : decode cX11_holds 17 = .ok (.iconst 0, 1) := by decide +kernel
theorem dX11_holds_18 : decode cX11_holds 18 = .ok (.iconst 1, 1) := by decide +kernel
theorem dX11_holds_19 : decode cX11_holds 19 = .ok (.invokevirtual 146, 3) := by decide +kernel
theorem dX11_holds_22 : decode cX11_holds 22 = .ok (.ifCond .eq 7, 3) := by decide +kernel
theorem dX11_holds_25 : decode cX11_holds 25 = .ok (.iconst 0, 1) := by decide +kernel
theorem dX11_holds_26 : decode cX11_holds 26 = .ok (.goto 7, 3) := by decide +kernel
theorem dX11_holds_29 : decode cX11_holds 29 = .ok (.aload_n 0, 1) := by decide +kernel
theorem dX11_holds_30 : decode cX11_holds 30 = .ok (.getfield 271, 3) := by decide +kernel
theorem dX11_holds_33 : decode cX11_holds 33 = .ok (.ireturn, 1) := by decide +kernel
theorem dX11_hasCause_0 : decode cX11_hasCause 0 = .ok (.aload_n 0, 1) := by decide +kernel
theorem dX11_hasCause_1 : decode cX11_hasCause 1 = .ok (.getfield 7, 3) := by decide +kernel
theorem dX11_hasCause_4 : decode cX11_hasCause 4 = .ok (.bipush 104, 2) := by decide +kernel
theorem dX11_hasCause_6 : decode cX11_hasCause 6 = .ok (.if_icmp .eq 21, 3) := by decide +kernel
theorem dX11_hasCause_9 : decode cX11_hasCause 9 = .ok (.aload_n 0, 1) := by decide +kernel
theorem dX11_hasCause_10 : decode cX11_hasCause 10 = .ok (.getfield 7, 3) := by decide +kernel
theorem dX11_hasCause_13 : decode cX11_hasCause 13 = .ok (.bipush 115, 2) := by decide +kernel
theorem dX11_hasCause_15 : decode cX11_hasCause 15 = .ok (.if_icmp .eq 12, 3) := by decide +kernel
theorem dX11_hasCause_18 : decode cX11_hasCause 18 = .ok (.aload_n 0, 1) := by decide +kernel
theorem dX11_hasCause_19 : decode cX11_hasCause 19 = .ok (.getfield 7, 3) := by decide +kernel
theorem dX11_hasCause_22 : decode cX11_hasCause 22 = .ok (.bipush 120, 2) := by decide +kernel
theorem dX11_hasCause_24 : decode cX11_hasCause 24 = .ok (.if_icmp .ne 7, 3) := by decide +kernel
theorem dX11_hasCause_27 : decode cX11_hasCause 27 = .ok (.iconst 1, 1) := by decide +kernel
theorem dX11_hasCause_28 : decode cX11_hasCause 28 = .ok (.goto 4, 3) := by decide +kernel
theorem dX11_hasCause_31 : decode cX11_hasCause 31 = .ok (.iconst 0, 1) := by decide +kernel
theorem dX11_hasCause_32 : decode cX11_hasCause 32 = .ok (.ireturn, 1) := by decide +kernel
theorem dX11_cause_0 : decode cX11_cause 0 = .ok (.aload_n 0, 1) := by decide +kernel
theorem dX11_cause_1 : decode cX11_cause 1 = .ok (.iconst 0, 1) := by decide +kernel
theorem dX11_cause_2 : decode cX11_cause 2 = .ok (.putfield 117, 3) := by decide +kernel
theorem dX11_cause_5 : decode cX11_cause 5 = .ok (.aload_n 0, 1) := by decide +kernel
theorem dX11_cause_6 : decode cX11_cause 6 = .ok (.aload_n 0, 1) := by decide +kernel
theorem dX11_cause_7 : decode cX11_cause 7 = .ok (.invokevirtual 329, 3) := by decide +kernel
theorem dX11_cause_10 : decode cX11_cause 10 = .ok (.ifCond .ne 7, 3) := by decide +kernel
theorem dX11_cause_13 : decode cX11_cause 13 = .ok (.iconst 1, 1) := by decide +kernel
theorem dX11_cause_14 : decode cX11_cause 14 = .ok (.goto 4, 3) := by decide +kernel
theorem dX11_cause_17 : decode cX11_cause 17 = .ok (.iconst 0, 1) := by decide +kernel
theorem dX11_cause_18 : decode cX11_cause 18 = .ok (.iconst 1, 1) := by decide +kernel
theorem dX11_cause_19 : decode cX11_cause 19 = .ok (.invokevirtual 146, 3) := by decide +kernel
theorem dX11_cause_22 : decode cX11_cause 22 = .ok (.ifCond .eq 7, 3) := by decide +kernel
theorem dX11_cause_25 : decode cX11_cause 25 = .ok (.iconst 0, 1) := by decide +kernel
theorem dX11_cause_26 : decode cX11_cause 26 = .ok (.goto 7, 3) := by decide +kernel
theorem dX11_cause_29 : decode cX11_cause 29 = .ok (.aload_n 0, 1) := by decide +kernel
theorem dX11_cause_30 : decode cX11_cause 30 = .ok (.getfield 277, 3) := by decide +kernel
theorem dX11_cause_33 : decode cX11_cause 33 = .ok (.ireturn, 1) := by decide +kernel
theorem dX11_causeRule_0 : decode cX11_causeRule 0 = .ok (.aload_n 0, 1) := by decide +kernel
theorem dX11_causeRule_1 : decode cX11_causeRule 1 = .ok (.iconst 0, 1) := by decide +kernel
theorem dX11_causeRule_2 : decode cX11_causeRule 2 = .ok (.putfield 117, 3) := by decide +kernel
theorem dX11_causeRule_5 : decode cX11_causeRule 5 = .ok (.aload_n 0, 1) := by decide +kernel
theorem dX11_causeRule_6 : decode cX11_causeRule 6 = .ok (.aload_n 0, 1) := by decide +kernel
theorem dX11_causeRule_7 : decode cX11_causeRule 7 = .ok (.invokevirtual 329, 3) := by decide +kernel
theorem dX11_causeRule_10 : decode cX11_causeRule 10 = .ok (.ifCond .eq 11, 3) := by decide +kernel
theorem dX11_causeRule_13 : decode cX11_causeRule 13 = .ok (.aload_n 0, 1) := by decide +kernel
theorem dX11_causeRule_14 : decode cX11_causeRule 14 = .ok (.getfield 13, 3) := by decide +kernel
theorem dX11_causeRule_17 : decode cX11_causeRule 17 = .ok (.iconst (-1), 1) := by decide +kernel
theorem dX11_causeRule_18 : decode cX11_causeRule 18 = .ok (.if_icmp .ne 7, 3) := by decide +kernel
theorem dX11_causeRule_21 : decode cX11_causeRule 21 = .ok (.iconst 1, 1) := by decide +kernel
theorem dX11_causeRule_22 : decode cX11_causeRule 22 = .ok (.goto 4, 3) := by decide +kernel
theorem dX11_causeRule_25 : decode cX11_causeRule 25 = .ok (.iconst 0, 1) := by decide +kernel
theorem dX11_causeRule_26 : decode cX11_causeRule 26 = .ok (.iconst 1, 1) := by decide +kernel
theorem dX11_causeRule_27 : decode cX11_causeRule 27 = .ok (.invokevirtual 146, 3) := by decide +kernel
theorem dX11_causeRule_30 : decode cX11_causeRule 30 = .ok (.ifCond .eq 7, 3) := by decide +kernel
theorem dX11_causeRule_33 : decode cX11_causeRule 33 = .ok (.iconst 0, 1) := by decide +kernel
theorem dX11_causeRule_34 : decode cX11_causeRule 34 = .ok (.goto 7, 3) := by decide +kernel
theorem dX11_causeRule_37 : decode cX11_causeRule 37 = .ok (.aload_n 0, 1) := by decide +kernel
theorem dX11_causeRule_38 : decode cX11_causeRule 38 = .ok (.getfield 13, 3) := by decide +kernel
theorem dX11_causeRule_41 : decode cX11_causeRule 41 = .ok (.ireturn, 1) := by decide +kernel
theorem dX11_risk_0 : decode cX11_risk 0 = .ok (.aload_n 0, 1) := by decide +kernel
theorem dX11_risk_1 : decode cX11_risk 1 = .ok (.iconst 0, 1) := by decide +kernel
theorem dX11_risk_2 : decode cX11_risk 2 = .ok (.putfield 117, 3) := by decide +kernel
theorem dX11_risk_5 : decode cX11_risk 5 = .ok (.aload_n 0, 1) := by decide +kernel
theorem dX11_risk_6 : decode cX11_risk 6 = .ok (.invokevirtual 220, 3) := by decide +kernel
theorem dX11_risk_9 : decode cX11_risk 9 = .ok (.ireturn, 1) := by decide +kernel
theorem dX11_logLength_0 : decode cX11_logLength 0 = .ok (.aload_n 0, 1) := by decide +kernel
theorem dX11_logLength_1 : decode cX11_logLength 1 = .ok (.iconst 0, 1) := by decide +kernel
theorem dX11_logLength_2 : decode cX11_logLength 2 = .ok (.putfield 117, 3) := by decide +kernel
theorem dX11_logLength_5 : decode cX11_logLength 5 = .ok (.aload_n 0, 1) := by decide +kernel
theorem dX11_logLength_6 : decode cX11_logLength 6 = .ok (.getfield 113, 3) := by decide +kernel
theorem dX11_logLength_9 : decode cX11_logLength 9 = .ok (.invokevirtual 332, 3) := by decide +kernel
theorem dX11_logLength_12 : decode cX11_logLength 12 = .ok (.ireturn, 1) := by decide +kernel
theorem dX11_logAt_0 : decode cX11_logAt 0 = .ok (.aload_n 0, 1) := by decide +kernel
theorem dX11_logAt_1 : decode cX11_logAt 1 = .ok (.iconst 0, 1) := by decide +kernel
theorem dX11_logAt_2 : decode cX11_logAt 2 = .ok (.putfield 117, 3) := by decide +kernel
theorem dX11_logAt_5 : decode cX11_logAt 5 = .ok (.aload_n 0, 1) := by decide +kernel
theorem dX11_logAt_6 : decode cX11_logAt 6 = .ok (.iload_n 1, 1) := by decide +kernel
theorem dX11_logAt_7 : decode cX11_logAt 7 = .ok (.i2l, 1) := by decide +kernel
theorem dX11_logAt_8 : decode cX11_logAt 8 = .ok (.lconst 0, 1) := by decide +kernel
theorem dX11_logAt_9 : decode cX11_logAt 9 = .ok (.aload_n 0, 1) := by decide +kernel
theorem dX11_logAt_10 : decode cX11_logAt 10 = .ok (.getfield 113, 3) := by decide +kernel
theorem dX11_logAt_13 : decode cX11_logAt 13 = .ok (.invokevirtual 332, 3) := by decide +kernel
theorem dX11_logAt_16 : decode cX11_logAt 16 = .ok (.iconst 1, 1) := by decide +kernel
theorem dX11_logAt_17 : decode cX11_logAt 17 = .ok (.isub, 1) := by decide +kernel
theorem dX11_logAt_18 : decode cX11_logAt 18 = .ok (.i2l, 1) := by decide +kernel
theorem dX11_logAt_19 : decode cX11_logAt 19 = .ok (.invokestatic 132, 3) := by decide +kernel
theorem dX11_logAt_22 : decode cX11_logAt 22 = .ok (.ifCond .ne 7, 3) := by decide +kernel
theorem dX11_logAt_25 : decode cX11_logAt 25 = .ok (.iconst 1, 1) := by decide +kernel
theorem dX11_logAt_26 : decode cX11_logAt 26 = .ok (.goto 4, 3) := by decide +kernel
theorem dX11_logAt_29 : decode cX11_logAt 29 = .ok (.iconst 0, 1) := by decide +kernel
theorem dX11_logAt_30 : decode cX11_logAt 30 = .ok (.iconst 1, 1) := by decide +kernel
theorem dX11_logAt_31 : decode cX11_logAt 31 = .ok (.invokevirtual 146, 3) := by decide +kernel
theorem dX11_logAt_34 : decode cX11_logAt 34 = .ok (.ifCond .eq 7, 3) := by decide +kernel
theorem dX11_logAt_37 : decode cX11_logAt 37 = .ok (.iconst 0, 1) := by decide +kernel
theorem dX11_logAt_38 : decode cX11_logAt 38 = .ok (.goto 11, 3) := by decide +kernel
theorem dX11_logAt_41 : decode cX11_logAt 41 = .ok (.aload_n 0, 1) := by decide +kernel
theorem dX11_logAt_42 : decode cX11_logAt 42 = .ok (.getfield 113, 3) := by decide +kernel
theorem dX11_logAt_45 : decode cX11_logAt 45 = .ok (.iload_n 1, 1) := by decide +kernel
theorem dX11_logAt_46 : decode cX11_logAt 46 = .ok (.invokevirtual 335, 3) := by decide +kernel
theorem dX11_logAt_49 : decode cX11_logAt 49 = .ok (.ireturn, 1) := by decide +kernel
theorem dX11_logged_0 : decode cX11_logged 0 = .ok (.aload_n 0, 1) := by decide +kernel
theorem dX11_logged_1 : decode cX11_logged 1 = .ok (.iconst 0, 1) := by decide +kernel
theorem dX11_logged_2 : decode cX11_logged 2 = .ok (.putfield 117, 3) := by decide +kernel
theorem dX11_logged_5 : decode cX11_logged 5 = .ok (.iconst 0, 1) := by decide +kernel
theorem dX11_logged_6 : decode cX11_logged 6 = .ok (.istore_n 2, 1) := by decide +kernel
theorem dX11_logged_7 : decode cX11_logged 7 = .ok (.iconst 0, 1) := by decide +kernel
theorem dX11_logged_8 : decode cX11_logged 8 = .ok (.istore_n 3, 1) := by decide +kernel
theorem dX11_logged_9 : decode cX11_logged 9 = .ok (.iload_n 3, 1) := by decide +kernel
theorem dX11_logged_10 : decode cX11_logged 10 = .ok (.aload_n 0, 1) := by decide +kernel
theorem dX11_logged_11 : decode cX11_logged 11 = .ok (.getfield 113, 3) := by decide +kernel
theorem dX11_logged_14 : decode cX11_logged 14 = .ok (.invokevirtual 332, 3) := by decide +kernel
theorem dX11_logged_17 : decode cX11_logged 17 = .ok (.if_icmp .ge 29, 3) := by decide +kernel
theorem dX11_logged_20 : decode cX11_logged 20 = .ok (.iload_n 2, 1) := by decide +kernel
theorem dX11_logged_21 : decode cX11_logged 21 = .ok (.aload_n 0, 1) := by decide +kernel
theorem dX11_logged_22 : decode cX11_logged 22 = .ok (.getfield 113, 3) := by decide +kernel
theorem dX11_logged_25 : decode cX11_logged 25 = .ok (.iload_n 3, 1) := by decide +kernel
theorem dX11_logged_26 : decode cX11_logged 26 = .ok (.invokevirtual 335, 3) := by decide +kernel
theorem dX11_logged_29 : decode cX11_logged 29 = .ok (.iload_n 1, 1) := by decide +kernel
theorem dX11_logged_30 : decode cX11_logged 30 = .ok (.if_icmp .ne 7, 3) := by decide +kernel
theorem dX11_logged_33 : decode cX11_logged 33 = .ok (.iconst 1, 1) := by decide +kernel
theorem dX11_logged_34 : decode cX11_logged 34 = .ok (.goto 4, 3) := by decide +kernel
theorem dX11_logged_37 : decode cX11_logged 37 = .ok (.iconst 0, 1) := by decide +kernel
theorem dX11_logged_38 : decode cX11_logged 38 = .ok (.iadd, 1) := by decide +kernel
theorem dX11_logged_39 : decode cX11_logged 39 = .ok (.istore_n 2, 1) := by decide +kernel
theorem dX11_logged_40 : decode cX11_logged 40 = .ok (.iinc 3 1, 3) := by decide +kernel
theorem dX11_logged_43 : decode cX11_logged 43 = .ok (.goto (-34), 3) := by decide +kernel
theorem dX11_logged_46 : decode cX11_logged 46 = .ok (.iload_n 2, 1) := by decide +kernel
theorem dX11_logged_47 : decode cX11_logged 47 = .ok (.ireturn, 1) := by decide +kernel
theorem dX11_checksum_0 : decode cX11_checksum 0 = .ok (.aload_n 0, 1) := by decide +kernel
theorem dX11_checksum_1 : decode cX11_checksum 1 = .ok (.iconst 0, 1) := by decide +kernel
theorem dX11_checksum_2 : decode cX11_checksum 2 = .ok (.putfield 117, 3) := by decide +kernel
theorem dX11_checksum_5 : decode cX11_checksum 5 = .ok (.ldc2_w 339, 3) := by decide +kernel
theorem dX11_checksum_8 : decode cX11_checksum 8 = .ok (.ldc2_w 341, 3) := by decide +kernel
theorem dX11_checksum_11 : decode cX11_checksum 11 = .ok (.aload_n 0, 1) := by decide +kernel
theorem dX11_checksum_12 : decode cX11_checksum 12 = .ok (.getfield 120, 3) := by decide +kernel
theorem dX11_checksum_15 : decode cX11_checksum 15 = .ok (.i2l, 1) := by decide +kernel
theorem dX11_checksum_16 : decode cX11_checksum 16 = .ok (.ladd, 1) := by decide +kernel
theorem dX11_checksum_17 : decode cX11_checksum 17 = .ok (.lmul, 1) := by decide +kernel
theorem dX11_checksum_18 : decode cX11_checksum 18 = .ok (.aload_n 0, 1) := by decide +kernel
theorem dX11_checksum_19 : decode cX11_checksum 19 = .ok (.getfield 241, 3) := by decide +kernel
theorem dX11_checksum_22 : decode cX11_checksum 22 = .ok (.ifCond .eq 10, 3) := by decide +kernel
theorem dX11_checksum_25 : decode cX11_checksum 25 = .ok (.aload_n 0, 1) := by decide +kernel
theorem dX11_checksum_26 : decode cX11_checksum 26 = .ok (.getfield 245, 3) := by decide +kernel
theorem dX11_checksum_29 : decode cX11_checksum 29 = .ok (.goto 4, 3) := by decide +kernel
theorem dX11_checksum_32 : decode cX11_checksum 32 = .ok (.iconst 0, 1) := by decide +kernel
theorem dX11_checksum_33 : decode cX11_checksum 33 = .ok (.i2l, 1) := by decide +kernel
theorem dX11_checksum_34 : decode cX11_checksum 34 = .ok (.ladd, 1) := by decide +kernel
theorem dX11_checksum_35 : decode cX11_checksum 35 = .ok (.lstore_n 1, 1) := by decide +kernel
theorem dX11_checksum_36 : decode cX11_checksum 36 = .ok (.iconst 0, 1) := by decide +kernel
theorem dX11_checksum_37 : decode cX11_checksum 37 = .ok (.istore_n 3, 1) := by decide +kernel
theorem dX11_checksum_38 : decode cX11_checksum 38 = .ok (.iload_n 3, 1) := by decide +kernel
theorem dX11_checksum_39 : decode cX11_checksum 39 = .ok (.iconst 3, 1) := by decide +kernel
theorem dX11_checksum_40 : decode cX11_checksum 40 = .ok (.if_icmp .ge 23, 3) := by decide +kernel
theorem dX11_checksum_43 : decode cX11_checksum 43 = .ok (.ldc2_w 339, 3) := by decide +kernel
theorem dX11_checksum_46 : decode cX11_checksum 46 = .ok (.lload_n 1, 1) := by decide +kernel
theorem dX11_checksum_47 : decode cX11_checksum 47 = .ok (.lmul, 1) := by decide +kernel
theorem dX11_checksum_48 : decode cX11_checksum 48 = .ok (.aload_n 0, 1) := by decide +kernel
theorem dX11_checksum_49 : decode cX11_checksum 49 = .ok (.getfield 30, 3) := by decide +kernel
theorem dX11_checksum_52 : decode cX11_checksum 52 = .ok (.iload_n 3, 1) := by decide +kernel
theorem dX11_checksum_53 : decode cX11_checksum 53 = .ok (.iaload, 1) := by decide +kernel
theorem dX11_checksum_54 : decode cX11_checksum 54 = .ok (.i2l, 1) := by decide +kernel
theorem dX11_checksum_55 : decode cX11_checksum 55 = .ok (.ladd, 1) := by decide +kernel
theorem dX11_checksum_56 : decode cX11_checksum 56 = .ok (.lstore_n 1, 1) := by decide +kernel
theorem dX11_checksum_57 : decode cX11_checksum 57 = .ok (.iinc 3 1, 3) := by decide +kernel
theorem dX11_checksum_60 : decode cX11_checksum 60 = .ok (.goto (-22), 3) := by decide +kernel
theorem dX11_checksum_63 : decode cX11_checksum 63 = .ok (.iconst 0, 1) := by decide +kernel
theorem dX11_checksum_64 : decode cX11_checksum 64 = .ok (.istore_n 3, 1) := by decide +kernel
theorem dX11_checksum_65 : decode cX11_checksum 65 = .ok (.iload_n 3, 1) := by decide +kernel
theorem dX11_checksum_66 : decode cX11_checksum 66 = .ok (.aload_n 0, 1) := by decide +kernel
theorem dX11_checksum_67 : decode cX11_checksum 67 = .ok (.getfield 232, 3) := by decide +kernel
theorem dX11_checksum_70 : decode cX11_checksum 70 = .ok (.if_icmp .ge 23, 3) := by decide +kernel
theorem dX11_checksum_73 : decode cX11_checksum 73 = .ok (.ldc2_w 339, 3) := by decide +kernel
theorem dX11_checksum_76 : decode cX11_checksum 76 = .ok (.lload_n 1, 1) := by decide +kernel
theorem dX11_checksum_77 : decode cX11_checksum 77 = .ok (.lmul, 1) := by decide +kernel
theorem dX11_checksum_78 : decode cX11_checksum 78 = .ok (.aload_n 0, 1) := by decide +kernel
theorem dX11_checksum_79 : decode cX11_checksum 79 = .ok (.getfield 98, 3) := by decide +kernel
theorem dX11_checksum_82 : decode cX11_checksum 82 = .ok (.iload_n 3, 1) := by decide +kernel
theorem dX11_checksum_83 : decode cX11_checksum 83 = .ok (.iaload, 1) := by decide +kernel
theorem dX11_checksum_84 : decode cX11_checksum 84 = .ok (.i2l, 1) := by decide +kernel
theorem dX11_checksum_85 : decode cX11_checksum 85 = .ok (.ladd, 1) := by decide +kernel
theorem dX11_checksum_86 : decode cX11_checksum 86 = .ok (.lstore_n 1, 1) := by decide +kernel
theorem dX11_checksum_87 : decode cX11_checksum 87 = .ok (.iinc 3 1, 3) := by decide +kernel
theorem dX11_checksum_90 : decode cX11_checksum 90 = .ok (.goto (-25), 3) := by decide +kernel
theorem dX11_checksum_93 : decode cX11_checksum 93 = .ok (.ldc2_w 339, 3) := by decide +kernel
theorem dX11_checksum_96 : decode cX11_checksum 96 = .ok (.lload_n 1, 1) := by decide +kernel
theorem dX11_checksum_97 : decode cX11_checksum 97 = .ok (.lmul, 1) := by decide +kernel
theorem dX11_checksum_98 : decode cX11_checksum 98 = .ok (.aload_n 0, 1) := by decide +kernel
theorem dX11_checksum_99 : decode cX11_checksum 99 = .ok (.getfield 113, 3) := by decide +kernel
theorem dX11_checksum_102 : decode cX11_checksum 102 = .ok (.invokevirtual 332, 3) := by decide +kernel
theorem dX11_checksum_105 : decode cX11_checksum 105 = .ok (.i2l, 1) := by decide +kernel
theorem dX11_checksum_106 : decode cX11_checksum 106 = .ok (.ladd, 1) := by decide +kernel
theorem dX11_checksum_107 : decode cX11_checksum 107 = .ok (.lreturn, 1) := by decide +kernel
theorem dX11_metShare_0 : decode cX11_metShare 0 = .ok (.aload_n 0, 1) := by decide +kernel
theorem dX11_metShare_1 : decode cX11_metShare 1 = .ok (.iconst 0, 1) := by decide +kernel
theorem dX11_metShare_2 : decode cX11_metShare 2 = .ok (.putfield 117, 3) := by decide +kernel
theorem dX11_metShare_5 : decode cX11_metShare 5 = .ok (.iconst 0, 1) := by decide +kernel
theorem dX11_metShare_6 : decode cX11_metShare 6 = .ok (.istore_n 1, 1) := by decide +kernel
theorem dX11_metShare_7 : decode cX11_metShare 7 = .ok (.iconst 0, 1) := by decide +kernel
theorem dX11_metShare_8 : decode cX11_metShare 8 = .ok (.istore_n 2, 1) := by decide +kernel
theorem dX11_metShare_9 : decode cX11_metShare 9 = .ok (.iload_n 2, 1) := by decide +kernel
theorem dX11_metShare_10 : decode cX11_metShare 10 = .ok (.aload_n 0, 1) := by decide +kernel
theorem dX11_metShare_11 : decode cX11_metShare 11 = .ok (.getfield 232, 3) := by decide +kernel
theorem dX11_metShare_14 : decode cX11_metShare 14 = .ok (.if_icmp .ge 25, 3) := by decide +kernel
theorem dX11_metShare_17 : decode cX11_metShare 17 = .ok (.iload_n 1, 1) := by decide +kernel
theorem dX11_metShare_18 : decode cX11_metShare 18 = .ok (.aload_n 0, 1) := by decide +kernel
theorem dX11_metShare_19 : decode cX11_metShare 19 = .ok (.iload_n 2, 1) := by decide +kernel
theorem dX11_metShare_20 : decode cX11_metShare 20 = .ok (.invokevirtual 257, 3) := by decide +kernel
theorem dX11_metShare_23 : decode cX11_metShare 23 = .ok (.ifCond .eq 7, 3) := by decide +kernel
theorem dX11_metShare_26 : decode cX11_metShare 26 = .ok (.iconst 1, 1) := by decide +kernel
theorem dX11_metShare_27 : decode cX11_metShare 27 = .ok (.goto 4, 3) := by decide +kernel
theorem dX11_metShare_30 : decode cX11_metShare 30 = .ok (.iconst 0, 1) := by decide +kernel
theorem dX11_metShare_31 : decode cX11_metShare 31 = .ok (.iadd, 1) := by decide +kernel
theorem dX11_metShare_32 : decode cX11_metShare 32 = .ok (.istore_n 1, 1) := by decide +kernel
theorem dX11_metShare_33 : decode cX11_metShare 33 = .ok (.iinc 2 1, 3) := by decide +kernel
theorem dX11_metShare_36 : decode cX11_metShare 36 = .ok (.goto (-27), 3) := by decide +kernel
theorem dX11_metShare_39 : decode cX11_metShare 39 = .ok (.aload_n 0, 1) := by decide +kernel
theorem dX11_metShare_40 : decode cX11_metShare 40 = .ok (.aload_n 0, 1) := by decide +kernel
theorem dX11_metShare_41 : decode cX11_metShare 41 = .ok (.getfield 232, 3) := by decide +kernel
theorem dX11_metShare_44 : decode cX11_metShare 44 = .ok (.ifCond .ne 7, 3) := by decide +kernel
theorem dX11_metShare_47 : decode cX11_metShare 47 = .ok (.iconst 1, 1) := by decide +kernel
theorem dX11_metShare_48 : decode cX11_metShare 48 = .ok (.goto 4, 3) := by decide +kernel
theorem dX11_metShare_51 : decode cX11_metShare 51 = .ok (.iconst 0, 1) := by decide +kernel
theorem dX11_metShare_52 : decode cX11_metShare 52 = .ok (.iconst 1, 1) := by decide +kernel
theorem dX11_metShare_53 : decode cX11_metShare 53 = .ok (.invokevirtual 146, 3) := by decide +kernel
theorem dX11_metShare_56 : decode cX11_metShare 56 = .ok (.ifCond .eq 7, 3) := by decide +kernel
theorem dX11_metShare_59 : decode cX11_metShare 59 = .ok (.fconst 0, 1) := by decide +kernel
theorem dX11_metShare_60 : decode cX11_metShare 60 = .ok (.goto 11, 3) := by decide +kernel
theorem dX11_metShare_63 : decode cX11_metShare 63 = .ok (.iload_n 1, 1) := by decide +kernel
theorem dX11_metShare_64 : decode cX11_metShare 64 = .ok (.i2f, 1) := by decide +kernel
theorem dX11_metShare_65 : decode cX11_metShare 65 = .ok (.aload_n 0, 1) := by decide +kernel
theorem dX11_metShare_66 : decode cX11_metShare 66 = .ok (.getfield 232, 3) := by decide +kernel
theorem dX11_metShare_69 : decode cX11_metShare 69 = .ok (.i2f, 1) := by decide +kernel
theorem dX11_metShare_70 : decode cX11_metShare 70 = .ok (.fdiv, 1) := by decide +kernel
theorem dX11_metShare_71 : decode cX11_metShare 71 = .ok (.freturn, 1) := by decide +kernel
theorem dX11_meanFill_0 : decode cX11_meanFill 0 = .ok (.aload_n 0, 1) := by decide +kernel
theorem dX11_meanFill_1 : decode cX11_meanFill 1 = .ok (.iconst 0, 1) := by decide +kernel
theorem dX11_meanFill_2 : decode cX11_meanFill 2 = .ok (.putfield 117, 3) := by decide +kernel
theorem dX11_meanFill_5 : decode cX11_meanFill 5 = .ok (.dconst 0, 1) := by decide +kernel
theorem dX11_meanFill_6 : decode cX11_meanFill 6 = .ok (.dstore_n 1, 1) := by decide +kernel
theorem dX11_meanFill_7 : decode cX11_meanFill 7 = .ok (.iconst 0, 1) := by decide +kernel
theorem dX11_meanFill_8 : decode cX11_meanFill 8 = .ok (.istore_n 3, 1) := by decide +kernel
theorem dX11_meanFill_9 : decode cX11_meanFill 9 = .ok (.iconst 0, 1) := by decide +kernel
theorem dX11_meanFill_10 : decode cX11_meanFill 10 = .ok (.istore 4, 2) := by decide +kernel
theorem dX11_meanFill_12 : decode cX11_meanFill 12 = .ok (.iload 4, 2) := by decide +kernel
theorem dX11_meanFill_14 : decode cX11_meanFill 14 = .ok (.iconst 3, 1) := by decide +kernel
theorem dX11_meanFill_15 : decode cX11_meanFill 15 = .ok (.if_icmp .ge 42, 3) := by decide +kernel
theorem dX11_meanFill_18 : decode cX11_meanFill 18 = .ok (.aload_n 0, 1) := by decide +kernel
theorem dX11_meanFill_19 : decode cX11_meanFill 19 = .ok (.getfield 20, 3) := by decide +kernel
theorem dX11_meanFill_22 : decode cX11_meanFill 22 = .ok (.iload 4, 2) := by decide +kernel
theorem dX11_meanFill_24 : decode cX11_meanFill 24 = .ok (.iaload, 1) := by decide +kernel
theorem dX11_meanFill_25 : decode cX11_meanFill 25 = .ok (.ifCond .le 26, 3) := by decide +kernel
theorem dX11_meanFill_28 : decode cX11_meanFill 28 = .ok (.dload_n 1, 1) := by decide +kernel
theorem dX11_meanFill_29 : decode cX11_meanFill 29 = .ok (.aload_n 0, 1) := by decide +kernel
theorem dX11_meanFill_30 : decode cX11_meanFill 30 = .ok (.getfield 30, 3) := by decide +kernel
theorem dX11_meanFill_33 : decode cX11_meanFill 33 = .ok (.iload 4, 2) := by decide +kernel
theorem dX11_meanFill_35 : decode cX11_meanFill 35 = .ok (.iaload, 1) := by decide +kernel
theorem dX11_meanFill_36 : decode cX11_meanFill 36 = .ok (.i2d, 1) := by decide +kernel
theorem dX11_meanFill_37 : decode cX11_meanFill 37 = .ok (.aload_n 0, 1) := by decide +kernel
theorem dX11_meanFill_38 : decode cX11_meanFill 38 = .ok (.getfield 20, 3) := by decide +kernel
theorem dX11_meanFill_41 : decode cX11_meanFill 41 = .ok (.iload 4, 2) := by decide +kernel
theorem dX11_meanFill_43 : decode cX11_meanFill 43 = .ok (.iaload, 1) := by decide +kernel
theorem dX11_meanFill_44 : decode cX11_meanFill 44 = .ok (.i2d, 1) := by decide +kernel
theorem dX11_meanFill_45 : decode cX11_meanFill 45 = .ok (.ddiv, 1) := by decide +kernel
theorem dX11_meanFill_46 : decode cX11_meanFill 46 = .ok (.dadd, 1) := by decide +kernel
theorem dX11_meanFill_47 : decode cX11_meanFill 47 = .ok (.dstore_n 1, 1) := by decide +kernel
theorem dX11_meanFill_48 : decode cX11_meanFill 48 = .ok (.iinc 3 1, 3) := by decide +kernel
theorem dX11_meanFill_51 : decode cX11_meanFill 51 = .ok (.iinc 4 1, 3) := by decide +kernel
theorem dX11_meanFill_54 : decode cX11_meanFill 54 = .ok (.goto (-42), 3) := by decide +kernel
theorem dX11_meanFill_57 : decode cX11_meanFill 57 = .ok (.aload_n 0, 1) := by decide +kernel
theorem dX11_meanFill_58 : decode cX11_meanFill 58 = .ok (.iload_n 3, 1) := by decide +kernel
theorem dX11_meanFill_59 : decode cX11_meanFill 59 = .ok (.ifCond .ne 7, 3) := by decide +kernel
theorem dX11_meanFill_62 : decode cX11_meanFill 62 = .ok (.iconst 1, 1) := by decide +kernel
theorem dX11_meanFill_63 : decode cX11_meanFill 63 = .ok (.goto 4, 3) := by decide +kernel
theorem dX11_meanFill_66 : decode cX11_meanFill 66 = .ok (.iconst 0, 1) := by decide +kernel
theorem dX11_meanFill_67 : decode cX11_meanFill 67 = .ok (.iconst 1, 1) := by decide +kernel
theorem dX11_meanFill_68 : decode cX11_meanFill 68 = .ok (.invokevirtual 146, 3) := by decide +kernel
theorem dX11_meanFill_71 : decode cX11_meanFill 71 = .ok (.ifCond .eq 7, 3) := by decide +kernel
theorem dX11_meanFill_74 : decode cX11_meanFill 74 = .ok (.dconst 0, 1) := by decide +kernel
theorem dX11_meanFill_75 : decode cX11_meanFill 75 = .ok (.goto 7, 3) := by decide +kernel
theorem dX11_meanFill_78 : decode cX11_meanFill 78 = .ok (.dload_n 1, 1) := by decide +kernel
theorem dX11_meanFill_79 : decode cX11_meanFill 79 = .ok (.iload_n 3, 1) := by decide +kernel
theorem dX11_meanFill_80 : decode cX11_meanFill 80 = .ok (.i2d, 1) := by decide +kernel
theorem dX11_meanFill_81 : decode cX11_meanFill 81 = .ok (.ddiv, 1) := by decide +kernel
theorem dX11_meanFill_82 : decode cX11_meanFill 82 = .ok (.dreturn, 1) := by decide +kernel
theorem dX11_isSound_0 : decode cX11_isSound 0 = .ok (.aload_n 0, 1) := by decide +kernel
theorem dX11_isSound_1 : decode cX11_isSound 1 = .ok (.iconst 0, 1) := by decide +kernel
theorem dX11_isSound_2 : decode cX11_isSound 2 = .ok (.putfield 117, 3) := by decide +kernel
theorem dX11_isSound_5 : decode cX11_isSound 5 = .ok (.iconst 1, 1) := by decide +kernel
theorem dX11_isSound_6 : decode cX11_isSound 6 = .ok (.ireturn, 1) := by decide +kernel
theorem dJ5_init_d00df_0 : decode cJ5_init_d00df 0 = .ok (.aload_n 0, 1) := by decide +kernel
theorem dJ5_init_d00df_1 : decode cJ5_init_d00df 1 = .ok (.invokespecial 3, 3) := by decide +kernel
theorem dJ5_init_d00df_4 : decode cJ5_init_d00df 4 = .ok (.getstatic 18, 3) := by decide +kernel
theorem dJ5_init_d00df_7 : decode cJ5_init_d00df 7 = .ok (.ifCond .eq 18, 3) := by decide +kernel
theorem dJ5_init_d00df_10 : decode cJ5_init_d00df 10 = .ok (.aload_n 0, 1) := by decide +kernel
theorem dJ5_init_d00df_11 : decode cJ5_init_d00df 11 = .ok (.iload_n 1, 1) := by decide +kernel
theorem dJ5_init_d00df_12 : decode cJ5_init_d00df 12 = .ok (.newarray .byte, 2) := by decide +kernel
theorem dJ5_init_d00df_14 : decode cJ5_init_d00df 14 = .ok (.putfield 15, 3) := by decide +kernel
theorem dJ5_init_d00df_17 : decode cJ5_init_d00df 17 = .ok (.aload_n 0, 1) := by decide +kernel
theorem dJ5_init_d00df_18 : decode cJ5_init_d00df 18 = .ok (.iconst 0, 1) := by decide +kernel
theorem dJ5_init_d00df_19 : decode cJ5_init_d00df 19 = .ok (.putfield 22, 3) := by decide +kernel
theorem dJ5_init_d00df_22 : decode cJ5_init_d00df 22 = .ok (.goto 16, 3) := by decide +kernel
theorem dJ5_init_d00df_25 : decode cJ5_init_d00df 25 = .ok (.aload_n 0, 1) := by decide +kernel
theorem dJ5_init_d00df_26 : decode cJ5_init_d00df 26 = .ok (.iload_n 1, 1) := by decide +kernel
theorem dJ5_init_d00df_27 : decode cJ5_init_d00df 27 = .ok (.invokestatic 26, 3) := by decide +kernel
theorem dJ5_init_d00df_30 : decode cJ5_init_d00df 30 = .ok (.putfield 15, 3) := by decide +kernel
theorem dJ5_init_d00df_33 : decode cJ5_init_d00df 33 = .ok (.aload_n 0, 1) := by decide +kernel
theorem dJ5_init_d00df_34 : decode cJ5_init_d00df 34 = .ok (.iconst 1, 1) := by decide +kernel
theorem dJ5_init_d00df_35 : decode cJ5_init_d00df 35 = .ok (.putfield 22, 3) := by decide +kernel
theorem dJ5_init_d00df_38 : decode cJ5_init_d00df 38 = .ok (.return_, 1) := by decide +kernel
theorem dJ5_length_8abf5_0 : decode cJ5_length_8abf5 0 = .ok (.aload_n 0, 1) := by decide +kernel
theorem dJ5_length_8abf5_1 : decode cJ5_length_8abf5 1 = .ok (.getfield 79, 3) := by decide +kernel
theorem dJ5_length_8abf5_4 : decode cJ5_length_8abf5 4 = .ok (.ireturn, 1) := by decide +kernel
theorem dJ5_ensureCapacityInternal_d00df_0 : decode cJ5_ensureCapacityInternal_d00df 0 = .ok (.aload_n 0, 1) := by decide +kernel
theorem dJ5_ensureCapacityInternal_d00df_1 : decode cJ5_ensureCapacityInternal_d00df 1 = .ok (.getfield 15, 3) := by decide +kernel
theorem dJ5_ensureCapacityInternal_d00df_4 : decode cJ5_ensureCapacityInternal_d00df 4 = .ok (.arraylength, 1) := by decide +kernel
theorem dJ5_ensureCapacityInternal_d00df_5 : decode cJ5_ensureCapacityInternal_d00df 5 = .ok (.aload_n 0, 1) := by decide +kernel
theorem dJ5_ensureCapacityInternal_d00df_6 : decode cJ5_ensureCapacityInternal_d00df 6 = .ok (.getfield 22, 3) := by decide +kernel
theorem dJ5_ensureCapacityInternal_d00df_9 : decode cJ5_ensureCapacityInternal_d00df 9 = .ok (.ishr, 1) := by decide +kernel
theorem dJ5_ensureCapacityInternal_d00df_10 : decode cJ5_ensureCapacityInternal_d00df 10 = .ok (.istore_n 2, 1) := by decide +kernel
theorem dJ5_ensureCapacityInternal_d00df_11 : decode cJ5_ensureCapacityInternal_d00df 11 = .ok (.iload_n 1, 1) := by decide +kernel
theorem dJ5_ensureCapacityInternal_d00df_12 : decode cJ5_ensureCapacityInternal_d00df 12 = .ok (.iload_n 2, 1) := by decide +kernel
theorem dJ5_ensureCapacityInternal_d00df_13 : decode cJ5_ensureCapacityInternal_d00df 13 = .ok (.isub, 1) := by decide +kernel
theorem dJ5_ensureCapacityInternal_d00df_14 : decode cJ5_ensureCapacityInternal_d00df 14 = .ok (.ifCond .le 24, 3) := by decide +kernel
theorem dJ5_ensureCapacityInternal_d00df_17 : decode cJ5_ensureCapacityInternal_d00df 17 = .ok (.aload_n 0, 1) := by decide +kernel
theorem dJ5_ensureCapacityInternal_d00df_18 : decode cJ5_ensureCapacityInternal_d00df 18 = .ok (.aload_n 0, 1) := by decide +kernel
theorem dJ5_ensureCapacityInternal_d00df_19 : decode cJ5_ensureCapacityInternal_d00df 19 = .ok (.getfield 15, 3) := by decide +kernel
theorem dJ5_ensureCapacityInternal_d00df_22 : decode cJ5_ensureCapacityInternal_d00df 22 = .ok (.aload_n 0, 1) := by decide +kernel
theorem dJ5_ensureCapacityInternal_d00df_23 : decode cJ5_ensureCapacityInternal_d00df 23 = .ok (.iload_n 1, 1) := by decide +kernel
theorem dJ5_ensureCapacityInternal_d00df_24 : decode cJ5_ensureCapacityInternal_d00df 24 = .ok (.invokevirtual 104, 3) := by decide +kernel
theorem dJ5_ensureCapacityInternal_d00df_27 : decode cJ5_ensureCapacityInternal_d00df 27 = .ok (.aload_n 0, 1) := by decide +kernel
theorem dJ5_ensureCapacityInternal_d00df_28 : decode cJ5_ensureCapacityInternal_d00df 28 = .ok (.getfield 22, 3) := by decide +kernel
theorem dJ5_ensureCapacityInternal_d00df_31 : decode cJ5_ensureCapacityInternal_d00df 31 = .ok (.ishl, 1) := by decide +kernel
theorem dJ5_ensureCapacityInternal_d00df_32 : decode cJ5_ensureCapacityInternal_d00df 32 = .ok (.invokestatic 108, 3) := by decide +kernel
theorem dJ5_ensureCapacityInternal_d00df_35 : decode cJ5_ensureCapacityInternal_d00df 35 = .ok (.putfield 15, 3) := by decide +kernel
theorem dJ5_ensureCapacityInternal_d00df_38 : decode cJ5_ensureCapacityInternal_d00df 38 = .ok (.return_, 1) := by decide +kernel
theorem dJ5_newCapacity_0f7a4_0 : decode cJ5_newCapacity_0f7a4 0 = .ok (.aload_n 0, 1) := by decide +kernel
theorem dJ5_newCapacity_0f7a4_1 : decode cJ5_newCapacity_0f7a4 1 = .ok (.getfield 15, 3) := by decide +kernel
theorem dJ5_newCapacity_0f7a4_4 : decode cJ5_newCapacity_0f7a4 4 = .ok (.arraylength, 1) := by decide +kernel
theorem dJ5_newCapacity_0f7a4_5 : decode cJ5_newCapacity_0f7a4 5 = .ok (.istore_n 2, 1) := by decide +kernel
theorem dJ5_newCapacity_0f7a4_6 : decode cJ5_newCapacity_0f7a4 6 = .ok (.iload_n 1, 1) := by decide +kernel
theorem dJ5_newCapacity_0f7a4_7 : decode cJ5_newCapacity_0f7a4 7 = .ok (.aload_n 0, 1) := by decide +kernel
theorem dJ5_newCapacity_0f7a4_8 : decode cJ5_newCapacity_0f7a4 8 = .ok (.getfield 22, 3) := by decide +kernel
theorem dJ5_newCapacity_0f7a4_11 : decode cJ5_newCapacity_0f7a4 11 = .ok (.ishl, 1) := by decide +kernel
theorem dJ5_newCapacity_0f7a4_12 : decode cJ5_newCapacity_0f7a4 12 = .ok (.istore_n 3, 1) := by decide +kernel
theorem dJ5_newCapacity_0f7a4_13 : decode cJ5_newCapacity_0f7a4 13 = .ok (.iload_n 3, 1) := by decide +kernel
theorem dJ5_newCapacity_0f7a4_14 : decode cJ5_newCapacity_0f7a4 14 = .ok (.iload_n 2, 1) := by decide +kernel
theorem dJ5_newCapacity_0f7a4_15 : decode cJ5_newCapacity_0f7a4 15 = .ok (.isub, 1) := by decide +kernel
theorem dJ5_newCapacity_0f7a4_16 : decode cJ5_newCapacity_0f7a4 16 = .ok (.istore 4, 2) := by decide +kernel
theorem dJ5_newCapacity_0f7a4_18 : decode cJ5_newCapacity_0f7a4 18 = .ok (.iload_n 2, 1) := by decide +kernel
theorem dJ5_newCapacity_0f7a4_19 : decode cJ5_newCapacity_0f7a4 19 = .ok (.iload 4, 2) := by decide +kernel
theorem dJ5_newCapacity_0f7a4_21 : decode cJ5_newCapacity_0f7a4 21 = .ok (.iload_n 2, 1) := by decide +kernel
theorem dJ5_newCapacity_0f7a4_22 : decode cJ5_newCapacity_0f7a4 22 = .ok (.iconst 2, 1) := by decide +kernel
theorem dJ5_newCapacity_0f7a4_23 : decode cJ5_newCapacity_0f7a4 23 = .ok (.aload_n 0, 1) := by decide +kernel
theorem dJ5_newCapacity_0f7a4_24 : decode cJ5_newCapacity_0f7a4 24 = .ok (.getfield 22, 3) := by decide +kernel
theorem dJ5_newCapacity_0f7a4_27 : decode cJ5_newCapacity_0f7a4 27 = .ok (.ishl, 1) := by decide +kernel
theorem dJ5_newCapacity_0f7a4_28 : decode cJ5_newCapacity_0f7a4 28 = .ok (.iadd, 1) := by decide +kernel
theorem dJ5_newCapacity_0f7a4_29 : decode cJ5_newCapacity_0f7a4 29 = .ok (.invokestatic 114, 3) := by decide +kernel
theorem dJ5_newCapacity_0f7a4_32 : decode cJ5_newCapacity_0f7a4 32 = .ok (.istore 5, 2) := by decide +kernel
theorem dJ5_newCapacity_0f7a4_34 : decode cJ5_newCapacity_0f7a4 34 = .ok (.iload 5, 2) := by decide +kernel
theorem dJ5_newCapacity_0f7a4_36 : decode cJ5_newCapacity_0f7a4 36 = .ok (.ldc 39, 2) := by decide +kernel
theorem dJ5_newCapacity_0f7a4_38 : decode cJ5_newCapacity_0f7a4 38 = .ok (.if_icmp .ne 13, 3) := by decide +kernel
theorem dJ5_newCapacity_0f7a4_41 : decode cJ5_newCapacity_0f7a4 41 = .ok (.new 120, 3) := by decide +kernel
theorem dJ5_newCapacity_0f7a4_44 : decode cJ5_newCapacity_0f7a4 44 = .ok (.dup, 1) := by decide +kernel
theorem dJ5_newCapacity_0f7a4_45 : decode cJ5_newCapacity_0f7a4 45 = .ok (.ldc 122, 2) := by decide +kernel
theorem dJ5_newCapacity_0f7a4_47 : decode cJ5_newCapacity_0f7a4 47 = .ok (.invokespecial 124, 3) := by decide +kernel
theorem dJ5_newCapacity_0f7a4_50 : decode cJ5_newCapacity_0f7a4 50 = .ok (.athrow, 1) := by decide +kernel
theorem dJ5_newCapacity_0f7a4_51 : decode cJ5_newCapacity_0f7a4 51 = .ok (.iload 5, 2) := by decide +kernel
theorem dJ5_newCapacity_0f7a4_53 : decode cJ5_newCapacity_0f7a4 53 = .ok (.aload_n 0, 1) := by decide +kernel
theorem dJ5_newCapacity_0f7a4_54 : decode cJ5_newCapacity_0f7a4 54 = .ok (.getfield 22, 3) := by decide +kernel
theorem dJ5_newCapacity_0f7a4_57 : decode cJ5_newCapacity_0f7a4 57 = .ok (.ishr, 1) := by decide +kernel
theorem dJ5_newCapacity_0f7a4_58 : decode cJ5_newCapacity_0f7a4 58 = .ok (.ireturn, 1) := by decide +kernel
theorem dJ5_inflate_da8c8_0 : decode cJ5_inflate_da8c8 0 = .ok (.aload_n 0, 1) := by decide +kernel
theorem dJ5_inflate_da8c8_1 : decode cJ5_inflate_da8c8 1 = .ok (.invokevirtual 83, 3) := by decide +kernel
theorem dJ5_inflate_da8c8_4 : decode cJ5_inflate_da8c8 4 = .ok (.ifCond .ne 4, 3) := by decide +kernel
theorem dJ5_inflate_da8c8_7 : decode cJ5_inflate_da8c8 7 = .ok (.return_, 1) := by decide +kernel
theorem dJ5_inflate_da8c8_8 : decode cJ5_inflate_da8c8 8 = .ok (.aload_n 0, 1) := by decide +kernel
theorem dJ5_inflate_da8c8_9 : decode cJ5_inflate_da8c8 9 = .ok (.getfield 15, 3) := by decide +kernel
theorem dJ5_inflate_da8c8_12 : decode cJ5_inflate_da8c8 12 = .ok (.arraylength, 1) := by decide +kernel
theorem dJ5_inflate_da8c8_13 : decode cJ5_inflate_da8c8 13 = .ok (.invokestatic 26, 3) := by decide +kernel
theorem dJ5_inflate_da8c8_16 : decode cJ5_inflate_da8c8 16 = .ok (.astore_n 1, 1) := by decide +kernel
theorem dJ5_inflate_da8c8_17 : decode cJ5_inflate_da8c8 17 = .ok (.aload_n 0, 1) := by decide +kernel
theorem dJ5_inflate_da8c8_18 : decode cJ5_inflate_da8c8 18 = .ok (.getfield 15, 3) := by decide +kernel
theorem dJ5_inflate_da8c8_21 : decode cJ5_inflate_da8c8 21 = .ok (.iconst 0, 1) := by decide +kernel
theorem dJ5_inflate_da8c8_22 : decode cJ5_inflate_da8c8 22 = .ok (.aload_n 1, 1) := by decide +kernel
theorem dJ5_inflate_da8c8_23 : decode cJ5_inflate_da8c8 23 = .ok (.iconst 0, 1) := by decide +kernel
theorem dJ5_inflate_da8c8_24 : decode cJ5_inflate_da8c8 24 = .ok (.aload_n 0, 1) := by decide +kernel
theorem dJ5_inflate_da8c8_25 : decode cJ5_inflate_da8c8 25 = .ok (.getfield 79, 3) := by decide +kernel
theorem dJ5_inflate_da8c8_28 : decode cJ5_inflate_da8c8 28 = .ok (.invokestatic 125, 3) := by decide +kernel
theorem dJ5_inflate_da8c8_31 : decode cJ5_inflate_da8c8 31 = .ok (.aload_n 0, 1) := by decide +kernel
theorem dJ5_inflate_da8c8_32 : decode cJ5_inflate_da8c8 32 = .ok (.aload_n 1, 1) := by decide +kernel
theorem dJ5_inflate_da8c8_33 : decode cJ5_inflate_da8c8 33 = .ok (.putfield 15, 3) := by decide +kernel
theorem dJ5_inflate_da8c8_36 : decode cJ5_inflate_da8c8 36 = .ok (.aload_n 0, 1) := by decide +kernel
theorem dJ5_inflate_da8c8_37 : decode cJ5_inflate_da8c8 37 = .ok (.iconst 1, 1) := by decide +kernel
theorem dJ5_inflate_da8c8_38 : decode cJ5_inflate_da8c8 38 = .ok (.putfield 22, 3) := by decide +kernel
theorem dJ5_inflate_da8c8_41 : decode cJ5_inflate_da8c8 41 = .ok (.return_, 1) := by decide +kernel
theorem dJ5_charAt_5068e_0 : decode cJ5_charAt_5068e 0 = .ok (.aload_n 0, 1) := by decide +kernel
theorem dJ5_charAt_5068e_1 : decode cJ5_charAt_5068e 1 = .ok (.getfield 22, 3) := by decide +kernel
theorem dJ5_charAt_5068e_4 : decode cJ5_charAt_5068e 4 = .ok (.istore_n 2, 1) := by decide +kernel
theorem dJ5_charAt_5068e_5 : decode cJ5_charAt_5068e 5 = .ok (.aload_n 0, 1) := by decide +kernel
theorem dJ5_charAt_5068e_6 : decode cJ5_charAt_5068e 6 = .ok (.getfield 15, 3) := by decide +kernel
theorem dJ5_charAt_5068e_9 : decode cJ5_charAt_5068e 9 = .ok (.astore_n 3, 1) := by decide +kernel
theorem dJ5_charAt_5068e_10 : decode cJ5_charAt_5068e 10 = .ok (.aload_n 0, 1) := by decide +kernel
theorem dJ5_charAt_5068e_11 : decode cJ5_charAt_5068e 11 = .ok (.getfield 79, 3) := by decide +kernel
theorem dJ5_charAt_5068e_14 : decode cJ5_charAt_5068e 14 = .ok (.aload_n 3, 1) := by decide +kernel
theorem dJ5_charAt_5068e_15 : decode cJ5_charAt_5068e 15 = .ok (.arraylength, 1) := by decide +kernel
theorem dJ5_charAt_5068e_16 : decode cJ5_charAt_5068e 16 = .ok (.iload_n 2, 1) := by decide +kernel
theorem dJ5_charAt_5068e_17 : decode cJ5_charAt_5068e 17 = .ok (.ishr, 1) := by decide +kernel
theorem dJ5_charAt_5068e_18 : decode cJ5_charAt_5068e 18 = .ok (.invokestatic 138, 3) := by decide +kernel
theorem dJ5_charAt_5068e_21 : decode cJ5_charAt_5068e 21 = .ok (.istore 4, 2) := by decide +kernel
theorem dJ5_charAt_5068e_23 : decode cJ5_charAt_5068e 23 = .ok (.iload_n 1, 1) := by decide +kernel
theorem dJ5_charAt_5068e_24 : decode cJ5_charAt_5068e 24 = .ok (.iload 4, 2) := by decide +kernel
theorem dJ5_charAt_5068e_26 : decode cJ5_charAt_5068e 26 = .ok (.invokestatic 144, 3) := by decide +kernel
theorem dJ5_charAt_5068e_29 : decode cJ5_charAt_5068e 29 = .ok (.iload_n 2, 1) := by decide +kernel
theorem dJ5_charAt_5068e_30 : decode cJ5_charAt_5068e 30 = .ok (.ifCond .ne 12, 3) := by decide +kernel
theorem dJ5_charAt_5068e_33 : decode cJ5_charAt_5068e 33 = .ok (.aload_n 3, 1) := by decide +kernel
theorem dJ5_charAt_5068e_34 : decode cJ5_charAt_5068e 34 = .ok (.iload_n 1, 1) := by decide +kernel
theorem dJ5_charAt_5068e_35 : decode cJ5_charAt_5068e 35 = .ok (.baload, 1) := by decide +kernel
theorem dJ5_charAt_5068e_36 : decode cJ5_charAt_5068e 36 = .ok (.sipush 255, 3) := by decide +kernel
theorem dJ5_charAt_5068e_39 : decode cJ5_charAt_5068e 39 = .ok (.iand, 1) := by decide +kernel
theorem dJ5_charAt_5068e_40 : decode cJ5_charAt_5068e 40 = .ok (.i2c, 1) := by decide +kernel
theorem dJ5_charAt_5068e_41 : decode cJ5_charAt_5068e 41 = .ok (.ireturn, 1) := by decide +kernel
theorem dJ5_charAt_5068e_42 : decode cJ5_charAt_5068e 42 = .ok (.aload_n 3, 1) := by decide +kernel
theorem dJ5_charAt_5068e_43 : decode cJ5_charAt_5068e 43 = .ok (.iload_n 1, 1) := by decide +kernel
theorem dJ5_charAt_5068e_44 : decode cJ5_charAt_5068e 44 = .ok (.invokestatic 148, 3) := by decide +kernel
theorem dJ5_charAt_5068e_47 : decode cJ5_charAt_5068e 47 = .ok (.ireturn, 1) := by decide +kernel
theorem dJ5_append_3fe6f_0 : decode cJ5_append_3fe6f 0 = .ok (.aload_n 0, 1) := by decide +kernel
theorem dJ5_append_3fe6f_1 : decode cJ5_append_3fe6f 1 = .ok (.aload_n 0, 1) := by decide +kernel
theorem dJ5_append_3fe6f_2 : decode cJ5_append_3fe6f 2 = .ok (.getfield 79, 3) := by decide +kernel
theorem dJ5_append_3fe6f_5 : decode cJ5_append_3fe6f 5 = .ok (.iconst 1, 1) := by decide +kernel
theorem dJ5_append_3fe6f_6 : decode cJ5_append_3fe6f 6 = .ok (.iadd, 1) := by decide +kernel
theorem dJ5_append_3fe6f_7 : decode cJ5_append_3fe6f 7 = .ok (.invokevirtual 100, 3) := by decide +kernel
theorem dJ5_append_3fe6f_10 : decode cJ5_append_3fe6f 10 = .ok (.aload_n 0, 1) := by decide +kernel
theorem dJ5_append_3fe6f_11 : decode cJ5_append_3fe6f 11 = .ok (.invokevirtual 83, 3) := by decide +kernel
theorem dJ5_append_3fe6f_14 : decode cJ5_append_3fe6f 14 = .ok (.ifCond .eq 31, 3) := by decide +kernel
theorem dJ5_append_3fe6f_17 : decode cJ5_append_3fe6f 17 = .ok (.iload_n 1, 1) := by decide +kernel
theorem dJ5_append_3fe6f_18 : decode cJ5_append_3fe6f 18 = .ok (.invokestatic 191, 3) := by decide +kernel
theorem dJ5_append_3fe6f_21 : decode cJ5_append_3fe6f 21 = .ok (.ifCond .eq 24, 3) := by decide +kernel
theorem dJ5_append_3fe6f_24 : decode cJ5_append_3fe6f 24 = .ok (.aload_n 0, 1) := by decide +kernel
theorem dJ5_append_3fe6f_25 : decode cJ5_append_3fe6f 25 = .ok (.getfield 15, 3) := by decide +kernel
theorem dJ5_append_3fe6f_28 : decode cJ5_append_3fe6f 28 = .ok (.aload_n 0, 1) := by decide +kernel
theorem dJ5_append_3fe6f_29 : decode cJ5_append_3fe6f 29 = .ok (.dup, 1) := by decide +kernel
theorem dJ5_append_3fe6f_30 : decode cJ5_append_3fe6f 30 = .ok (.getfield 79, 3) := by decide +kernel
theorem dJ5_append_3fe6f_33 : decode cJ5_append_3fe6f 33 = .ok (.dup_x1, 1) := by decide +kernel
theorem dJ5_append_3fe6f_34 : decode cJ5_append_3fe6f 34 = .ok (.iconst 1, 1) := by decide +kernel
theorem dJ5_append_3fe6f_35 : decode cJ5_append_3fe6f 35 = .ok (.iadd, 1) := by decide +kernel
theorem dJ5_append_3fe6f_36 : decode cJ5_append_3fe6f 36 = .ok (.putfield 79, 3) := by decide +kernel
theorem dJ5_append_3fe6f_39 : decode cJ5_append_3fe6f 39 = .ok (.iload_n 1, 1) := by decide +kernel
theorem dJ5_append_3fe6f_40 : decode cJ5_append_3fe6f 40 = .ok (.i2b, 1) := by decide +kernel
theorem dJ5_append_3fe6f_41 : decode cJ5_append_3fe6f 41 = .ok (.bastore, 1) := by decide +kernel
theorem dJ5_append_3fe6f_42 : decode cJ5_append_3fe6f 42 = .ok (.goto 33, 3) := by decide +kernel
theorem dJ5_append_3fe6f_45 : decode cJ5_append_3fe6f 45 = .ok (.aload_n 0, 1) := by decide +kernel
theorem dJ5_append_3fe6f_46 : decode cJ5_append_3fe6f 46 = .ok (.invokevirtual 83, 3) := by decide +kernel
theorem dJ5_append_3fe6f_49 : decode cJ5_append_3fe6f 49 = .ok (.ifCond .eq 7, 3) := by decide +kernel
theorem dJ5_append_3fe6f_52 : decode cJ5_append_3fe6f 52 = .ok (.aload_n 0, 1) := by decide +kernel
theorem dJ5_append_3fe6f_53 : decode cJ5_append_3fe6f 53 = .ok (.invokevirtual 195, 3) := by decide +kernel
theorem dJ5_append_3fe6f_56 : decode cJ5_append_3fe6f 56 = .ok (.aload_n 0, 1) := by decide +kernel
theorem dJ5_append_3fe6f_57 : decode cJ5_append_3fe6f 57 = .ok (.getfield 15, 3) := by decide +kernel
theorem dJ5_append_3fe6f_60 : decode cJ5_append_3fe6f 60 = .ok (.aload_n 0, 1) := by decide +kernel
theorem dJ5_append_3fe6f_61 : decode cJ5_append_3fe6f 61 = .ok (.dup, 1) := by decide +kernel
theorem dJ5_append_3fe6f_62 : decode cJ5_append_3fe6f 62 = .ok (.getfield 79, 3) := by decide +kernel
theorem dJ5_append_3fe6f_65 : decode cJ5_append_3fe6f 65 = .ok (.dup_x1, 1) := by decide +kernel
theorem dJ5_append_3fe6f_66 : decode cJ5_append_3fe6f 66 = .ok (.iconst 1, 1) := by decide +kernel
theorem dJ5_append_3fe6f_67 : decode cJ5_append_3fe6f 67 = .ok (.iadd, 1) := by decide +kernel
theorem dJ5_append_3fe6f_68 : decode cJ5_append_3fe6f 68 = .ok (.putfield 79, 3) := by decide +kernel
theorem dJ5_append_3fe6f_71 : decode cJ5_append_3fe6f 71 = .ok (.iload_n 1, 1) := by decide +kernel
theorem dJ5_append_3fe6f_72 : decode cJ5_append_3fe6f 72 = .ok (.invokestatic 197, 3) := by decide +kernel
theorem dJ5_append_3fe6f_75 : decode cJ5_append_3fe6f 75 = .ok (.aload_n 0, 1) := by decide +kernel
theorem dJ5_append_3fe6f_76 : decode cJ5_append_3fe6f 76 = .ok (.areturn, 1) := by decide +kernel
theorem dJ5_append_c97b9_0 : decode cJ5_append_c97b9 0 = .ok (.aload_n 0, 1) := by decide +kernel
theorem dJ5_append_c97b9_1 : decode cJ5_append_c97b9 1 = .ok (.getfield 79, 3) := by decide +kernel
theorem dJ5_append_c97b9_4 : decode cJ5_append_c97b9 4 = .ok (.istore_n 2, 1) := by decide +kernel
theorem dJ5_append_c97b9_5 : decode cJ5_append_c97b9 5 = .ok (.iload_n 2, 1) := by decide +kernel
theorem dJ5_append_c97b9_6 : decode cJ5_append_c97b9 6 = .ok (.iload_n 1, 1) := by decide +kernel
theorem dJ5_append_c97b9_7 : decode cJ5_append_c97b9 7 = .ok (.invokestatic 245, 3) := by decide +kernel
theorem dJ5_append_c97b9_10 : decode cJ5_append_c97b9 10 = .ok (.iadd, 1) := by decide +kernel
theorem dJ5_append_c97b9_11 : decode cJ5_append_c97b9 11 = .ok (.istore_n 3, 1) := by decide +kernel
theorem dJ5_append_c97b9_12 : decode cJ5_append_c97b9 12 = .ok (.aload_n 0, 1) := by decide +kernel
theorem dJ5_append_c97b9_13 : decode cJ5_append_c97b9 13 = .ok (.iload_n 3, 1) := by decide +kernel
theorem dJ5_append_c97b9_14 : decode cJ5_append_c97b9 14 = .ok (.invokevirtual 100, 3) := by decide +kernel
theorem dJ5_append_c97b9_17 : decode cJ5_append_c97b9 17 = .ok (.aload_n 0, 1) := by decide +kernel
theorem dJ5_append_c97b9_18 : decode cJ5_append_c97b9 18 = .ok (.invokevirtual 83, 3) := by decide +kernel
theorem dJ5_append_c97b9_21 : decode cJ5_append_c97b9 21 = .ok (.ifCond .eq 16, 3) := by decide +kernel
theorem dJ5_append_c97b9_24 : decode cJ5_append_c97b9 24 = .ok (.iload_n 1, 1) := by decide +kernel
theorem dJ5_append_c97b9_25 : decode cJ5_append_c97b9 25 = .ok (.iload_n 3, 1) := by decide +kernel
theorem dJ5_append_c97b9_26 : decode cJ5_append_c97b9 26 = .ok (.aload_n 0, 1) := by decide +kernel
theorem dJ5_append_c97b9_27 : decode cJ5_append_c97b9 27 = .ok (.getfield 15, 3) := by decide +kernel
theorem dJ5_append_c97b9_30 : decode cJ5_append_c97b9 30 = .ok (.invokestatic 248, 3) := by decide +kernel
theorem dJ5_append_c97b9_33 : decode cJ5_append_c97b9 33 = .ok (.pop, 1) := by decide +kernel
theorem dJ5_append_c97b9_34 : decode cJ5_append_c97b9 34 = .ok (.goto 14, 3) := by decide +kernel
theorem dJ5_append_c97b9_37 : decode cJ5_append_c97b9 37 = .ok (.iload_n 1, 1) := by decide +kernel
theorem dJ5_append_c97b9_38 : decode cJ5_append_c97b9 38 = .ok (.iload_n 2, 1) := by decide +kernel
theorem dJ5_append_c97b9_39 : decode cJ5_append_c97b9 39 = .ok (.iload_n 3, 1) := by decide +kernel
theorem dJ5_append_c97b9_40 : decode cJ5_append_c97b9 40 = .ok (.aload_n 0, 1) := by decide +kernel
theorem dJ5_append_c97b9_41 : decode cJ5_append_c97b9 41 = .ok (.getfield 15, 3) := by decide +kernel
theorem dJ5_append_c97b9_44 : decode cJ5_append_c97b9 44 = .ok (.invokestatic 251, 3) := by decide +kernel
theorem dJ5_append_c97b9_47 : decode cJ5_append_c97b9 47 = .ok (.pop, 1) := by decide +kernel
theorem dJ5_append_c97b9_48 : decode cJ5_append_c97b9 48 = .ok (.aload_n 0, 1) := by decide +kernel
theorem dJ5_append_c97b9_49 : decode cJ5_append_c97b9 49 = .ok (.iload_n 3, 1) := by decide +kernel
theorem dJ5_append_c97b9_50 : decode cJ5_append_c97b9 50 = .ok (.putfield 79, 3) := by decide +kernel
theorem dJ5_append_c97b9_53 : decode cJ5_append_c97b9 53 = .ok (.aload_n 0, 1) := by decide +kernel
theorem dJ5_append_c97b9_54 : decode cJ5_append_c97b9 54 = .ok (.areturn, 1) := by decide +kernel
theorem dJ5_isLatin1_aae02_0 : decode cJ5_isLatin1_aae02 0 = .ok (.getstatic 18, 3) := by decide +kernel
theorem dJ5_isLatin1_aae02_3 : decode cJ5_isLatin1_aae02 3 = .ok (.ifCond .eq 14, 3) := by decide +kernel
theorem dJ5_isLatin1_aae02_6 : decode cJ5_isLatin1_aae02 6 = .ok (.aload_n 0, 1) := by decide +kernel
theorem dJ5_isLatin1_aae02_7 : decode cJ5_isLatin1_aae02 7 = .ok (.getfield 22, 3) := by decide +kernel
theorem dJ5_isLatin1_aae02_10 : decode cJ5_isLatin1_aae02 10 = .ok (.ifCond .ne 7, 3) := by decide +kernel
theorem dJ5_isLatin1_aae02_13 : decode cJ5_isLatin1_aae02 13 = .ok (.iconst 1, 1) := by decide +kernel
theorem dJ5_isLatin1_aae02_14 : decode cJ5_isLatin1_aae02 14 = .ok (.goto 4, 3) := by decide +kernel
theorem dJ5_isLatin1_aae02_17 : decode cJ5_isLatin1_aae02 17 = .ok (.iconst 0, 1) := by decide +kernel
theorem dJ5_isLatin1_aae02_18 : decode cJ5_isLatin1_aae02 18 = .ok (.ireturn, 1) := by decide +kernel
theorem dJx00060_init_a7421_0 : decode cJx00060_init_a7421 0 = .ok (.aload_n 0, 1) := by decide +kernel
theorem dJx00060_init_a7421_1 : decode cJx00060_init_a7421 1 = .ok (.aload_n 1, 1) := by decide +kernel
theorem dJx00060_init_a7421_2 : decode cJx00060_init_a7421 2 = .ok (.invokespecial 7, 3) := by decide +kernel
theorem dJx00060_init_a7421_5 : decode cJx00060_init_a7421 5 = .ok (.return_, 1) := by decide +kernel
theorem dJ11_isValidCodePoint_9a6ad_0 : decode cJ11_isValidCodePoint_9a6ad 0 = .ok (.iload_n 0, 1) := by decide +kernel
theorem dJ11_isValidCodePoint_9a6ad_1 : decode cJ11_isValidCodePoint_9a6ad 1 = .ok (.bipush 16, 2) := by decide +kernel
theorem dJ11_isValidCodePoint_9a6ad_3 : decode cJ11_isValidCodePoint_9a6ad 3 = .ok (.iushr, 1) := by decide +kernel
theorem dJ11_isValidCodePoint_9a6ad_4 : decode cJ11_isValidCodePoint_9a6ad 4 = .ok (.istore_n 1, 1) := by decide +kernel
theorem dJ11_isValidCodePoint_9a6ad_5 : decode cJ11_isValidCodePoint_9a6ad 5 = .ok (.iload_n 1, 1) := by decide +kernel
theorem dJ11_isValidCodePoint_9a6ad_6 : decode cJ11_isValidCodePoint_9a6ad 6 = .ok (.bipush 17, 2) := by decide +kernel
theorem dJ11_isValidCodePoint_9a6ad_8 : decode cJ11_isValidCodePoint_9a6ad 8 = .ok (.if_icmp .ge 7, 3) := by decide +kernel
theorem dJ11_isValidCodePoint_9a6ad_11 : decode cJ11_isValidCodePoint_9a6ad 11 = .ok (.iconst 1, 1) := by decide +kernel
theorem dJ11_isValidCodePoint_9a6ad_12 : decode cJ11_isValidCodePoint_9a6ad 12 = .ok (.goto 4, 3) := by decide +kernel
theorem dJ11_isValidCodePoint_9a6ad_15 : decode cJ11_isValidCodePoint_9a6ad 15 = .ok (.iconst 0, 1) := by decide +kernel
theorem dJ11_isValidCodePoint_9a6ad_16 : decode cJ11_isValidCodePoint_9a6ad 16 = .ok (.ireturn, 1) := by decide +kernel
theorem dJ11_highSurrogate_5068e_0 : decode cJ11_highSurrogate_5068e 0 = .ok (.iload_n 0, 1) := by decide +kernel
theorem dJ11_highSurrogate_5068e_1 : decode cJ11_highSurrogate_5068e 1 = .ok (.bipush 10, 2) := by decide +kernel
theorem dJ11_highSurrogate_5068e_3 : decode cJ11_highSurrogate_5068e 3 = .ok (.iushr, 1) := by decide +kernel
theorem dJ11_highSurrogate_5068e_4 : decode cJ11_highSurrogate_5068e 4 = .ok (.ldc 110, 2) := by decide +kernel
theorem dJ11_highSurrogate_5068e_6 : decode cJ11_highSurrogate_5068e 6 = .ok (.iadd, 1) := by decide +kernel
theorem dJ11_highSurrogate_5068e_7 : decode cJ11_highSurrogate_5068e 7 = .ok (.i2c, 1) := by decide +kernel
theorem dJ11_highSurrogate_5068e_8 : decode cJ11_highSurrogate_5068e 8 = .ok (.ireturn, 1) := by decide +kernel
theorem dJ11_lowSurrogate_5068e_0 : decode cJ11_lowSurrogate_5068e 0 = .ok (.iload_n 0, 1) := by decide +kernel
theorem dJ11_lowSurrogate_5068e_1 : decode cJ11_lowSurrogate_5068e 1 = .ok (.sipush 1023, 3) := by decide +kernel
theorem dJ11_lowSurrogate_5068e_4 : decode cJ11_lowSurrogate_5068e 4 = .ok (.iand, 1) := by decide +kernel
theorem dJ11_lowSurrogate_5068e_5 : decode cJ11_lowSurrogate_5068e 5 = .ok (.ldc 76, 2) := by decide +kernel
theorem dJ11_lowSurrogate_5068e_7 : decode cJ11_lowSurrogate_5068e 7 = .ok (.iadd, 1) := by decide +kernel
theorem dJ11_lowSurrogate_5068e_8 : decode cJ11_lowSurrogate_5068e 8 = .ok (.i2c, 1) := by decide +kernel
theorem dJ11_lowSurrogate_5068e_9 : decode cJ11_lowSurrogate_5068e 9 = .ok (.ireturn, 1) := by decide +kernel
theorem dJ6_getChars_ba4f3_0 : decode cJ6_getChars_ba4f3 0 = .ok (.iload_n 1, 1) := by decide +kernel
theorem dJ6_getChars_ba4f3_1 : decode cJ6_getChars_ba4f3 1 = .ok (.istore 5, 2) := by decide +kernel
theorem dJ6_getChars_ba4f3_3 : decode cJ6_getChars_ba4f3 3 = .ok (.iload_n 0, 1) := by decide +kernel
theorem dJ6_getChars_ba4f3_4 : decode cJ6_getChars_ba4f3 4 = .ok (.ifCond .ge 7, 3) := by decide +kernel
theorem dJ6_getChars_ba4f3_7 : decode cJ6_getChars_ba4f3 7 = .ok (.iconst 1, 1) := by decide +kernel
theorem dJ6_getChars_ba4f3_8 : decode cJ6_getChars_ba4f3 8 = .ok (.goto 4, 3) := by decide +kernel
theorem dJ6_getChars_ba4f3_11 : decode cJ6_getChars_ba4f3 11 = .ok (.iconst 0, 1) := by decide +kernel
theorem dJ6_getChars_ba4f3_12 : decode cJ6_getChars_ba4f3 12 = .ok (.istore 6, 2) := by decide +kernel
theorem dJ6_getChars_ba4f3_14 : decode cJ6_getChars_ba4f3 14 = .ok (.iload 6, 2) := by decide +kernel
theorem dJ6_getChars_ba4f3_16 : decode cJ6_getChars_ba4f3 16 = .ok (.ifCond .ne 6, 3) := by decide +kernel
theorem dJ6_getChars_ba4f3_19 : decode cJ6_getChars_ba4f3 19 = .ok (.iload_n 0, 1) := by decide +kernel
theorem dJ6_getChars_ba4f3_20 : decode cJ6_getChars_ba4f3 20 = .ok (.ineg, 1) := by decide +kernel
theorem dJ6_getChars_ba4f3_21 : decode cJ6_getChars_ba4f3 21 = .ok (.istore_n 0, 1) := by decide +kernel
theorem dJ6_getChars_ba4f3_22 : decode cJ6_getChars_ba4f3 22 = .ok (.iload_n 0, 1) := by decide +kernel
theorem dJ6_getChars_ba4f3_23 : decode cJ6_getChars_ba4f3 23 = .ok (.bipush (-100), 2) := by decide +kernel
theorem dJ6_getChars_ba4f3_25 : decode cJ6_getChars_ba4f3 25 = .ok (.if_icmp .gt 47, 3) := by decide +kernel
theorem dJ6_getChars_ba4f3_28 : decode cJ6_getChars_ba4f3 28 = .ok (.iload_n 0, 1) := by decide +kernel
theorem dJ6_getChars_ba4f3_29 : decode cJ6_getChars_ba4f3 29 = .ok (.bipush 100, 2) := by decide +kernel
theorem dJ6_getChars_ba4f3_31 : decode cJ6_getChars_ba4f3 31 = .ok (.idiv, 1) := by decide +kernel
theorem dJ6_getChars_ba4f3_32 : decode cJ6_getChars_ba4f3 32 = .ok (.istore_n 3, 1) := by decide +kernel
theorem dJ6_getChars_ba4f3_33 : decode cJ6_getChars_ba4f3 33 = .ok (.iload_n 3, 1) := by decide +kernel
theorem dJ6_getChars_ba4f3_34 : decode cJ6_getChars_ba4f3 34 = .ok (.bipush 100, 2) := by decide +kernel
theorem dJ6_getChars_ba4f3_36 : decode cJ6_getChars_ba4f3 36 = .ok (.imul, 1) := by decide +kernel
theorem dJ6_getChars_ba4f3_37 : decode cJ6_getChars_ba4f3 37 = .ok (.iload_n 0, 1) := by decide +kernel
theorem dJ6_getChars_ba4f3_38 : decode cJ6_getChars_ba4f3 38 = .ok (.isub, 1) := by decide +kernel
theorem dJ6_getChars_ba4f3_39 : decode cJ6_getChars_ba4f3 39 = .ok (.istore 4, 2) := by decide +kernel
theorem dJ6_getChars_ba4f3_41 : decode cJ6_getChars_ba4f3 41 = .ok (.iload_n 3, 1) := by decide +kernel
theorem dJ6_getChars_ba4f3_42 : decode cJ6_getChars_ba4f3 42 = .ok (.istore_n 0, 1) := by decide +kernel
theorem dJ6_getChars_ba4f3_43 : decode cJ6_getChars_ba4f3 43 = .ok (.aload_n 2, 1) := by decide +kernel
theorem dJ6_getChars_ba4f3_44 : decode cJ6_getChars_ba4f3 44 = .ok (.iinc 5 (-1), 3) := by decide +kernel
theorem dJ6_getChars_ba4f3_47 : decode cJ6_getChars_ba4f3 47 = .ok (.iload 5, 2) := by decide +kernel
theorem dJ6_getChars_ba4f3_49 : decode cJ6_getChars_ba4f3 49 = .ok (.getstatic 83, 3) := by decide +kernel
theorem dJ6_getChars_ba4f3_52 : decode cJ6_getChars_ba4f3 52 = .ok (.iload 4, 2) := by decide +kernel
theorem dJ6_getChars_ba4f3_54 : decode cJ6_getChars_ba4f3 54 = .ok (.baload, 1) := by decide +kernel
theorem dJ6_getChars_ba4f3_55 : decode cJ6_getChars_ba4f3 55 = .ok (.bastore, 1) := by decide +kernel
theorem dJ6_getChars_ba4f3_56 : decode cJ6_getChars_ba4f3 56 = .ok (.aload_n 2, 1) := by decide +kernel
theorem dJ6_getChars_ba4f3_57 : decode cJ6_getChars_ba4f3 57 = .ok (.iinc 5 (-1), 3) := by decide +kernel
theorem dJ6_getChars_ba4f3_60 : decode cJ6_getChars_ba4f3 60 = .ok (.iload 5, 2) := by decide +kernel
theorem dJ6_getChars_ba4f3_62 : decode cJ6_getChars_ba4f3 62 = .ok (.getstatic 87, 3) := by decide +kernel
theorem dJ6_getChars_ba4f3_65 : decode cJ6_getChars_ba4f3 65 = .ok (.iload 4, 2) := by decide +kernel
theorem dJ6_getChars_ba4f3_67 : decode cJ6_getChars_ba4f3 67 = .ok (.baload, 1) := by decide +kernel
theorem dJ6_getChars_ba4f3_68 : decode cJ6_getChars_ba4f3 68 = .ok (.bastore, 1) := by decide +kernel
theorem dJ6_getChars_ba4f3_69 : decode cJ6_getChars_ba4f3 69 = .ok (.goto (-47), 3) := by decide +kernel
theorem dJ6_getChars_ba4f3_72 : decode cJ6_getChars_ba4f3 72 = .ok (.aload_n 2, 1) := by decide +kernel
theorem dJ6_getChars_ba4f3_73 : decode cJ6_getChars_ba4f3 73 = .ok (.iinc 5 (-1), 3) := by decide +kernel
theorem dJ6_getChars_ba4f3_76 : decode cJ6_getChars_ba4f3 76 = .ok (.iload 5, 2) := by decide +kernel
theorem dJ6_getChars_ba4f3_78 : decode cJ6_getChars_ba4f3 78 = .ok (.getstatic 83, 3) := by decide +kernel
theorem dJ6_getChars_ba4f3_81 : decode cJ6_getChars_ba4f3 81 = .ok (.iload_n 0, 1) := by decide +kernel
theorem dJ6_getChars_ba4f3_82 : decode cJ6_getChars_ba4f3 82 = .ok (.ineg, 1) := by decide +kernel
theorem dJ6_getChars_ba4f3_83 : decode cJ6_getChars_ba4f3 83 = .ok (.baload, 1) := by decide +kernel
theorem dJ6_getChars_ba4f3_84 : decode cJ6_getChars_ba4f3 84 = .ok (.bastore, 1) := by decide +kernel
theorem dJ6_getChars_ba4f3_85 : decode cJ6_getChars_ba4f3 85 = .ok (.iload_n 0, 1) := by decide +kernel
theorem dJ6_getChars_ba4f3_86 : decode cJ6_getChars_ba4f3 86 = .ok (.bipush (-9), 2) := by decide +kernel
theorem dJ6_getChars_ba4f3_88 : decode cJ6_getChars_ba4f3 88 = .ok (.if_icmp .ge 16, 3) := by decide +kernel
theorem dJ6_getChars_ba4f3_91 : decode cJ6_getChars_ba4f3 91 = .ok (.aload_n 2, 1) := by decide +kernel
theorem dJ6_getChars_ba4f3_92 : decode cJ6_getChars_ba4f3 92 = .ok (.iinc 5 (-1), 3) := by decide +kernel
theorem dJ6_getChars_ba4f3_95 : decode cJ6_getChars_ba4f3 95 = .ok (.iload 5, 2) := by decide +kernel
theorem dJ6_getChars_ba4f3_97 : decode cJ6_getChars_ba4f3 97 = .ok (.getstatic 87, 3) := by decide +kernel
theorem dJ6_getChars_ba4f3_100 : decode cJ6_getChars_ba4f3 100 = .ok (.iload_n 0, 1) := by decide +kernel
theorem dJ6_getChars_ba4f3_101 : decode cJ6_getChars_ba4f3 101 = .ok (.ineg, 1) := by decide +kernel
theorem dJ6_getChars_ba4f3_102 : decode cJ6_getChars_ba4f3 102 = .ok (.baload, 1) := by decide +kernel
theorem dJ6_getChars_ba4f3_103 : decode cJ6_getChars_ba4f3 103 = .ok (.bastore, 1) := by decide +kernel
theorem dJ6_getChars_ba4f3_104 : decode cJ6_getChars_ba4f3 104 = .ok (.iload 6, 2) := by decide +kernel
theorem dJ6_getChars_ba4f3_106 : decode cJ6_getChars_ba4f3 106 = .ok (.ifCond .eq 12, 3) := by decide +kernel
theorem dJ6_getChars_ba4f3_109 : decode cJ6_getChars_ba4f3 109 = .ok (.aload_n 2, 1) := by decide +kernel
theorem dJ6_getChars_ba4f3_110 : decode cJ6_getChars_ba4f3 110 = .ok (.iinc 5 (-1), 3) := by decide +kernel
theorem dJ6_getChars_ba4f3_113 : decode cJ6_getChars_ba4f3 113 = .ok (.iload 5, 2) := by decide +kernel
theorem dJ6_getChars_ba4f3_115 : decode cJ6_getChars_ba4f3 115 = .ok (.bipush 45, 2) := by decide +kernel
theorem dJ6_getChars_ba4f3_117 : decode cJ6_getChars_ba4f3 117 = .ok (.bastore, 1) := by decide +kernel
theorem dJ6_getChars_ba4f3_118 : decode cJ6_getChars_ba4f3 118 = .ok (.iload 5, 2) := by decide +kernel
theorem dJ6_getChars_ba4f3_120 : decode cJ6_getChars_ba4f3 120 = .ok (.ireturn, 1) := by decide +kernel
theorem dJ6_stringSize_0f7a4_0 : decode cJ6_stringSize_0f7a4 0 = .ok (.iconst 1, 1) := by decide +kernel
theorem dJ6_stringSize_0f7a4_1 : decode cJ6_stringSize_0f7a4 1 = .ok (.istore_n 1, 1) := by decide +kernel
theorem dJ6_stringSize_0f7a4_2 : decode cJ6_stringSize_0f7a4 2 = .ok (.iload_n 0, 1) := by decide +kernel
theorem dJ6_stringSize_0f7a4_3 : decode cJ6_stringSize_0f7a4 3 = .ok (.ifCond .lt 8, 3) := by decide +kernel
theorem dJ6_stringSize_0f7a4_6 : decode cJ6_stringSize_0f7a4 6 = .ok (.iconst 0, 1) := by decide +kernel
theorem dJ6_stringSize_0f7a4_7 : decode cJ6_stringSize_0f7a4 7 = .ok (.istore_n 1, 1) := by decide +kernel
theorem dJ6_stringSize_0f7a4_8 : decode cJ6_stringSize_0f7a4 8 = .ok (.iload_n 0, 1) := by decide +kernel
theorem dJ6_stringSize_0f7a4_9 : decode cJ6_stringSize_0f7a4 9 = .ok (.ineg, 1) := by decide +kernel
theorem dJ6_stringSize_0f7a4_10 : decode cJ6_stringSize_0f7a4 10 = .ok (.istore_n 0, 1) := by decide +kernel
theorem dJ6_stringSize_0f7a4_11 : decode cJ6_stringSize_0f7a4 11 = .ok (.bipush (-10), 2) := by decide +kernel
theorem dJ6_stringSize_0f7a4_13 : decode cJ6_stringSize_0f7a4 13 = .ok (.istore_n 2, 1) := by decide +kernel
theorem dJ6_stringSize_0f7a4_14 : decode cJ6_stringSize_0f7a4 14 = .ok (.iconst 1, 1) := by decide +kernel
theorem dJ6_stringSize_0f7a4_15 : decode cJ6_stringSize_0f7a4 15 = .ok (.istore_n 3, 1) := by decide +kernel
theorem dJ6_stringSize_0f7a4_16 : decode cJ6_stringSize_0f7a4 16 = .ok (.iload_n 3, 1) := by decide +kernel
theorem dJ6_stringSize_0f7a4_17 : decode cJ6_stringSize_0f7a4 17 = .ok (.bipush 10, 2) := by decide +kernel
theorem dJ6_stringSize_0f7a4_19 : decode cJ6_stringSize_0f7a4 19 = .ok (.if_icmp .ge 23, 3) := by decide +kernel
theorem dJ6_stringSize_0f7a4_22 : decode cJ6_stringSize_0f7a4 22 = .ok (.iload_n 0, 1) := by decide +kernel
theorem dJ6_stringSize_0f7a4_23 : decode cJ6_stringSize_0f7a4 23 = .ok (.iload_n 2, 1) := by decide +kernel
theorem dJ6_stringSize_0f7a4_24 : decode cJ6_stringSize_0f7a4 24 = .ok (.if_icmp .le 7, 3) := by decide +kernel
theorem dJ6_stringSize_0f7a4_27 : decode cJ6_stringSize_0f7a4 27 = .ok (.iload_n 3, 1) := by decide +kernel
theorem dJ6_stringSize_0f7a4_28 : decode cJ6_stringSize_0f7a4 28 = .ok (.iload_n 1, 1) := by decide +kernel
theorem dJ6_stringSize_0f7a4_29 : decode cJ6_stringSize_0f7a4 29 = .ok (.iadd, 1) := by decide +kernel
theorem dJ6_stringSize_0f7a4_30 : decode cJ6_stringSize_0f7a4 30 = .ok (.ireturn, 1) := by decide +kernel
theorem dJ6_stringSize_0f7a4_31 : decode cJ6_stringSize_0f7a4 31 = .ok (.bipush 10, 2) := by decide +kernel
theorem dJ6_stringSize_0f7a4_33 : decode cJ6_stringSize_0f7a4 33 = .ok (.iload_n 2, 1) := by decide +kernel
theorem dJ6_stringSize_0f7a4_34 : decode cJ6_stringSize_0f7a4 34 = .ok (.imul, 1) := by decide +kernel
theorem dJ6_stringSize_0f7a4_35 : decode cJ6_stringSize_0f7a4 35 = .ok (.istore_n 2, 1) := by decide +kernel
theorem dJ6_stringSize_0f7a4_36 : decode cJ6_stringSize_0f7a4 36 = .ok (.iinc 3 1, 3) := by decide +kernel
theorem dJ6_stringSize_0f7a4_39 : decode cJ6_stringSize_0f7a4 39 = .ok (.goto (-23), 3) := by decide +kernel
theorem dJ6_stringSize_0f7a4_42 : decode cJ6_stringSize_0f7a4 42 = .ok (.bipush 10, 2) := by decide +kernel
theorem dJ6_stringSize_0f7a4_44 : decode cJ6_stringSize_0f7a4 44 = .ok (.iload_n 1, 1) := by decide +kernel
theorem dJ6_stringSize_0f7a4_45 : decode cJ6_stringSize_0f7a4 45 = .ok (.iadd, 1) := by decide +kernel
theorem dJ6_stringSize_0f7a4_46 : decode cJ6_stringSize_0f7a4 46 = .ok (.ireturn, 1) := by decide +kernel
theorem dJ6_bitCount_0f7a4_0 : decode cJ6_bitCount_0f7a4 0 = .ok (.iload_n 0, 1) := by decide +kernel
theorem dJ6_bitCount_0f7a4_1 : decode cJ6_bitCount_0f7a4 1 = .ok (.iload_n 0, 1) := by decide +kernel
theorem dJ6_bitCount_0f7a4_2 : decode cJ6_bitCount_0f7a4 2 = .ok (.iconst 1, 1) := by decide +kernel
theorem dJ6_bitCount_0f7a4_3 : decode cJ6_bitCount_0f7a4 3 = .ok (.iushr, 1) := by decide +kernel
theorem dJ6_bitCount_0f7a4_4 : decode cJ6_bitCount_0f7a4 4 = .ok (.ldc_w 265, 3) := by decide +kernel
theorem dJ6_bitCount_0f7a4_7 : decode cJ6_bitCount_0f7a4 7 = .ok (.iand, 1) := by decide +kernel
theorem dJ6_bitCount_0f7a4_8 : decode cJ6_bitCount_0f7a4 8 = .ok (.isub, 1) := by decide +kernel
theorem dJ6_bitCount_0f7a4_9 : decode cJ6_bitCount_0f7a4 9 = .ok (.istore_n 0, 1) := by decide +kernel
theorem dJ6_bitCount_0f7a4_10 : decode cJ6_bitCount_0f7a4 10 = .ok (.iload_n 0, 1) := by decide +kernel
theorem dJ6_bitCount_0f7a4_11 : decode cJ6_bitCount_0f7a4 11 = .ok (.ldc_w 266, 3) := by decide +kernel
theorem dJ6_bitCount_0f7a4_14 : decode cJ6_bitCount_0f7a4 14 = .ok (.iand, 1) := by decide +kernel
theorem dJ6_bitCount_0f7a4_15 : decode cJ6_bitCount_0f7a4 15 = .ok (.iload_n 0, 1) := by decide +kernel
theorem dJ6_bitCount_0f7a4_16 : decode cJ6_bitCount_0f7a4 16 = .ok (.iconst 2, 1) := by decide +kernel
theorem dJ6_bitCount_0f7a4_17 : decode cJ6_bitCount_0f7a4 17 = .ok (.iushr, 1) := by decide +kernel
theorem dJ6_bitCount_0f7a4_18 : decode cJ6_bitCount_0f7a4 18 = .ok (.ldc_w 266, 3) := by decide +kernel
theorem dJ6_bitCount_0f7a4_21 : decode cJ6_bitCount_0f7a4 21 = .ok (.iand, 1) := by decide +kernel
theorem dJ6_bitCount_0f7a4_22 : decode cJ6_bitCount_0f7a4 22 = .ok (.iadd, 1) := by decide +kernel
theorem dJ6_bitCount_0f7a4_23 : decode cJ6_bitCount_0f7a4 23 = .ok (.istore_n 0, 1) := by decide +kernel
theorem dJ6_bitCount_0f7a4_24 : decode cJ6_bitCount_0f7a4 24 = .ok (.iload_n 0, 1) := by decide +kernel
theorem dJ6_bitCount_0f7a4_25 : decode cJ6_bitCount_0f7a4 25 = .ok (.iload_n 0, 1) := by decide +kernel
theorem dJ6_bitCount_0f7a4_26 : decode cJ6_bitCount_0f7a4 26 = .ok (.iconst 4, 1) := by decide +kernel
theorem dJ6_bitCount_0f7a4_27 : decode cJ6_bitCount_0f7a4 27 = .ok (.iushr, 1) := by decide +kernel
theorem dJ6_bitCount_0f7a4_28 : decode cJ6_bitCount_0f7a4 28 = .ok (.iadd, 1) := by decide +kernel
theorem dJ6_bitCount_0f7a4_29 : decode cJ6_bitCount_0f7a4 29 = .ok (.ldc_w 267, 3) := by decide +kernel
theorem dJ6_bitCount_0f7a4_32 : decode cJ6_bitCount_0f7a4 32 = .ok (.iand, 1) := by decide +kernel
theorem dJ6_bitCount_0f7a4_33 : decode cJ6_bitCount_0f7a4 33 = .ok (.istore_n 0, 1) := by decide +kernel
theorem dJ6_bitCount_0f7a4_34 : decode cJ6_bitCount_0f7a4 34 = .ok (.iload_n 0, 1) := by decide +kernel
theorem dJ6_bitCount_0f7a4_35 : decode cJ6_bitCount_0f7a4 35 = .ok (.iload_n 0, 1) := by decide +kernel
theorem dJ6_bitCount_0f7a4_36 : decode cJ6_bitCount_0f7a4 36 = .ok (.bipush 8, 2) := by decide +kernel
theorem dJ6_bitCount_0f7a4_38 : decode cJ6_bitCount_0f7a4 38 = .ok (.iushr, 1) := by decide +kernel
theorem dJ6_bitCount_0f7a4_39 : decode cJ6_bitCount_0f7a4 39 = .ok (.iadd, 1) := by decide +kernel
theorem dJ6_bitCount_0f7a4_40 : decode cJ6_bitCount_0f7a4 40 = .ok (.istore_n 0, 1) := by decide +kernel
theorem dJ6_bitCount_0f7a4_41 : decode cJ6_bitCount_0f7a4 41 = .ok (.iload_n 0, 1) := by decide +kernel
theorem dJ6_bitCount_0f7a4_42 : decode cJ6_bitCount_0f7a4 42 = .ok (.iload_n 0, 1) := by decide +kernel
theorem dJ6_bitCount_0f7a4_43 : decode cJ6_bitCount_0f7a4 43 = .ok (.bipush 16, 2) := by decide +kernel
theorem dJ6_bitCount_0f7a4_45 : decode cJ6_bitCount_0f7a4 45 = .ok (.iushr, 1) := by decide +kernel
theorem dJ6_bitCount_0f7a4_46 : decode cJ6_bitCount_0f7a4 46 = .ok (.iadd, 1) := by decide +kernel
theorem dJ6_bitCount_0f7a4_47 : decode cJ6_bitCount_0f7a4 47 = .ok (.istore_n 0, 1) := by decide +kernel
theorem dJ6_bitCount_0f7a4_48 : decode cJ6_bitCount_0f7a4 48 = .ok (.iload_n 0, 1) := by decide +kernel
theorem dJ6_bitCount_0f7a4_49 : decode cJ6_bitCount_0f7a4 49 = .ok (.bipush 63, 2) := by decide +kernel
theorem dJ6_bitCount_0f7a4_51 : decode cJ6_bitCount_0f7a4 51 = .ok (.iand, 1) := by decide +kernel
theorem dJ6_bitCount_0f7a4_52 : decode cJ6_bitCount_0f7a4 52 = .ok (.ireturn, 1) := by decide +kernel
theorem dJ9_abs_0f7a4_0 : decode cJ9_abs_0f7a4 0 = .ok (.iload_n 0, 1) := by decide +kernel
theorem dJ9_abs_0f7a4_1 : decode cJ9_abs_0f7a4 1 = .ok (.ifCond .ge 8, 3) := by decide +kernel
theorem dJ9_abs_0f7a4_4 : decode cJ9_abs_0f7a4 4 = .ok (.iload_n 0, 1) := by decide +kernel
theorem dJ9_abs_0f7a4_5 : decode cJ9_abs_0f7a4 5 = .ok (.ineg, 1) := by decide +kernel
theorem dJ9_abs_0f7a4_6 : decode cJ9_abs_0f7a4 6 = .ok (.goto 4, 3) := by decide +kernel
theorem dJ9_abs_0f7a4_9 : decode cJ9_abs_0f7a4 9 = .ok (.iload_n 0, 1) := by decide +kernel
theorem dJ9_abs_0f7a4_10 : decode cJ9_abs_0f7a4 10 = .ok (.ireturn, 1) := by decide +kernel
theorem dJ9_max_7cf53_0 : decode cJ9_max_7cf53 0 = .ok (.iload_n 0, 1) := by decide +kernel
theorem dJ9_max_7cf53_1 : decode cJ9_max_7cf53 1 = .ok (.iload_n 1, 1) := by decide +kernel
theorem dJ9_max_7cf53_2 : decode cJ9_max_7cf53 2 = .ok (.if_icmp .lt 7, 3) := by decide +kernel
theorem dJ9_max_7cf53_5 : decode cJ9_max_7cf53 5 = .ok (.iload_n 0, 1) := by decide +kernel
theorem dJ9_max_7cf53_6 : decode cJ9_max_7cf53 6 = .ok (.goto 4, 3) := by decide +kernel
theorem dJ9_max_7cf53_9 : decode cJ9_max_7cf53 9 = .ok (.iload_n 1, 1) := by decide +kernel
theorem dJ9_max_7cf53_10 : decode cJ9_max_7cf53 10 = .ok (.ireturn, 1) := by decide +kernel
theorem dJ9_min_7cf53_0 : decode cJ9_min_7cf53 0 = .ok (.iload_n 0, 1) := by decide +kernel
theorem dJ9_min_7cf53_1 : decode cJ9_min_7cf53 1 = .ok (.iload_n 1, 1) := by decide +kernel
theorem dJ9_min_7cf53_2 : decode cJ9_min_7cf53 2 = .ok (.if_icmp .gt 7, 3) := by decide +kernel
theorem dJ9_min_7cf53_5 : decode cJ9_min_7cf53 5 = .ok (.iload_n 0, 1) := by decide +kernel
theorem dJ9_min_7cf53_6 : decode cJ9_min_7cf53 6 = .ok (.goto 4, 3) := by decide +kernel
theorem dJ9_min_7cf53_9 : decode cJ9_min_7cf53 9 = .ok (.iload_n 1, 1) := by decide +kernel
theorem dJ9_min_7cf53_10 : decode cJ9_min_7cf53 10 = .ok (.ireturn, 1) := by decide +kernel
theorem dJ0_length_8abf5_0 : decode cJ0_length_8abf5 0 = .ok (.aload_n 0, 1) := by decide +kernel
theorem dJ0_length_8abf5_1 : decode cJ0_length_8abf5 1 = .ok (.getfield 9, 3) := by decide +kernel
theorem dJ0_length_8abf5_4 : decode cJ0_length_8abf5 4 = .ok (.arraylength, 1) := by decide +kernel
theorem dJ0_length_8abf5_5 : decode cJ0_length_8abf5 5 = .ok (.aload_n 0, 1) := by decide +kernel
theorem dJ0_length_8abf5_6 : decode cJ0_length_8abf5 6 = .ok (.invokevirtual 335, 3) := by decide +kernel
theorem dJ0_length_8abf5_9 : decode cJ0_length_8abf5 9 = .ok (.ishr, 1) := by decide +kernel
theorem dJ0_length_8abf5_10 : decode cJ0_length_8abf5 10 = .ok (.ireturn, 1) := by decide +kernel
theorem dJ0_indexOf_0f7a4_0 : decode cJ0_indexOf_0f7a4 0 = .ok (.aload_n 0, 1) := by decide +kernel
theorem dJ0_indexOf_0f7a4_1 : decode cJ0_indexOf_0f7a4 1 = .ok (.iload_n 1, 1) := by decide +kernel
theorem dJ0_indexOf_0f7a4_2 : decode cJ0_indexOf_0f7a4 2 = .ok (.iconst 0, 1) := by decide +kernel
theorem dJ0_indexOf_0f7a4_3 : decode cJ0_indexOf_0f7a4 3 = .ok (.invokevirtual 633, 3) := by decide +kernel
theorem dJ0_indexOf_0f7a4_6 : decode cJ0_indexOf_0f7a4 6 = .ok (.ireturn, 1) := by decide +kernel
theorem dJ0_indexOf_7cf53_0 : decode cJ0_indexOf_7cf53 0 = .ok (.aload_n 0, 1) := by decide +kernel
theorem dJ0_indexOf_7cf53_1 : decode cJ0_indexOf_7cf53 1 = .ok (.invokevirtual 492, 3) := by decide +kernel
theorem dJ0_indexOf_7cf53_4 : decode cJ0_indexOf_7cf53 4 = .ok (.ifCond .eq 19, 3) := by decide +kernel
theorem dJ0_indexOf_7cf53_7 : decode cJ0_indexOf_7cf53 7 = .ok (.aload_n 0, 1) := by decide +kernel
theorem dJ0_indexOf_7cf53_8 : decode cJ0_indexOf_7cf53 8 = .ok (.getfield 9, 3) := by decide +kernel
theorem dJ0_indexOf_7cf53_11 : decode cJ0_indexOf_7cf53 11 = .ok (.iload_n 1, 1) := by decide +kernel
theorem dJ0_indexOf_7cf53_12 : decode cJ0_indexOf_7cf53 12 = .ok (.iload_n 2, 1) := by decide +kernel
theorem dJ0_indexOf_7cf53_13 : decode cJ0_indexOf_7cf53 13 = .ok (.aload_n 0, 1) := by decide +kernel
theorem dJ0_indexOf_7cf53_14 : decode cJ0_indexOf_7cf53 14 = .ok (.invokevirtual 505, 3) := by decide +kernel
theorem dJ0_indexOf_7cf53_17 : decode cJ0_indexOf_7cf53 17 = .ok (.invokestatic 637, 3) := by decide +kernel
theorem dJ0_indexOf_7cf53_20 : decode cJ0_indexOf_7cf53 20 = .ok (.goto 16, 3) := by decide +kernel
theorem dJ0_indexOf_7cf53_23 : decode cJ0_indexOf_7cf53 23 = .ok (.aload_n 0, 1) := by decide +kernel
theorem dJ0_indexOf_7cf53_24 : decode cJ0_indexOf_7cf53 24 = .ok (.getfield 9, 3) := by decide +kernel
theorem dJ0_indexOf_7cf53_27 : decode cJ0_indexOf_7cf53 27 = .ok (.iload_n 1, 1) := by decide +kernel
theorem dJ0_indexOf_7cf53_28 : decode cJ0_indexOf_7cf53 28 = .ok (.iload_n 2, 1) := by decide +kernel
theorem dJ0_indexOf_7cf53_29 : decode cJ0_indexOf_7cf53 29 = .ok (.aload_n 0, 1) := by decide +kernel
theorem dJ0_indexOf_7cf53_30 : decode cJ0_indexOf_7cf53 30 = .ok (.invokevirtual 505, 3) := by decide +kernel
theorem dJ0_indexOf_7cf53_33 : decode cJ0_indexOf_7cf53 33 = .ok (.invokestatic 640, 3) := by decide +kernel
theorem dJ0_indexOf_7cf53_36 : decode cJ0_indexOf_7cf53 36 = .ok (.ireturn, 1) := by decide +kernel
theorem dJ0_coder_7d493_0 : decode cJ0_coder_7d493 0 = .ok (.getstatic 38, 3) := by decide +kernel
theorem dJ0_coder_7d493_3 : decode cJ0_coder_7d493 3 = .ok (.ifCond .eq 10, 3) := by decide +kernel
theorem dJ0_coder_7d493_6 : decode cJ0_coder_7d493 6 = .ok (.aload_n 0, 1) := by decide +kernel
theorem dJ0_coder_7d493_7 : decode cJ0_coder_7d493 7 = .ok (.getfield 15, 3) := by decide +kernel
theorem dJ0_coder_7d493_10 : decode cJ0_coder_7d493 10 = .ok (.goto 4, 3) := by decide +kernel
theorem dJ0_coder_7d493_13 : decode cJ0_coder_7d493 13 = .ok (.iconst 1, 1) := by decide +kernel
theorem dJ0_coder_7d493_14 : decode cJ0_coder_7d493 14 = .ok (.ireturn, 1) := by decide +kernel
theorem dJ0_isLatin1_aae02_0 : decode cJ0_isLatin1_aae02 0 = .ok (.getstatic 38, 3) := by decide +kernel
theorem dJ0_isLatin1_aae02_3 : decode cJ0_isLatin1_aae02 3 = .ok (.ifCond .eq 14, 3) := by decide +kernel
theorem dJ0_isLatin1_aae02_6 : decode cJ0_isLatin1_aae02 6 = .ok (.aload_n 0, 1) := by decide +kernel
theorem dJ0_isLatin1_aae02_7 : decode cJ0_isLatin1_aae02 7 = .ok (.getfield 15, 3) := by decide +kernel
theorem dJ0_isLatin1_aae02_10 : decode cJ0_isLatin1_aae02 10 = .ok (.ifCond .ne 7, 3) := by decide +kernel
theorem dJ0_isLatin1_aae02_13 : decode cJ0_isLatin1_aae02 13 = .ok (.iconst 1, 1) := by decide +kernel
theorem dJ0_isLatin1_aae02_14 : decode cJ0_isLatin1_aae02 14 = .ok (.goto 4, 3) := by decide +kernel
theorem dJ0_isLatin1_aae02_17 : decode cJ0_isLatin1_aae02 17 = .ok (.iconst 0, 1) := by decide +kernel
theorem dJ0_isLatin1_aae02_18 : decode cJ0_isLatin1_aae02 18 = .ok (.ireturn, 1) := by decide +kernel
theorem dJ0_checkIndex_df160_0 : decode cJ0_checkIndex_df160 0 = .ok (.iload_n 0, 1) := by decide +kernel
theorem dJ0_checkIndex_df160_1 : decode cJ0_checkIndex_df160 1 = .ok (.iload_n 1, 1) := by decide +kernel
theorem dJ0_checkIndex_df160_2 : decode cJ0_checkIndex_df160 2 = .ok (.getstatic 1053, 3) := by decide +kernel
theorem dJ0_checkIndex_df160_5 : decode cJ0_checkIndex_df160 5 = .ok (.invokestatic 1059, 3) := by decide +kernel
theorem dJ0_checkIndex_df160_8 : decode cJ0_checkIndex_df160 8 = .ok (.pop, 1) := by decide +kernel
theorem dJ0_checkIndex_df160_9 : decode cJ0_checkIndex_df160 9 = .ok (.return_, 1) := by decide +kernel
theorem dJ0_checkBoundsOffCount_cabcc_0 : decode cJ0_checkBoundsOffCount_cabcc 0 = .ok (.iload_n 0, 1) := by decide +kernel
theorem dJ0_checkBoundsOffCount_cabcc_1 : decode cJ0_checkBoundsOffCount_cabcc 1 = .ok (.iload_n 1, 1) := by decide +kernel
theorem dJ0_checkBoundsOffCount_cabcc_2 : decode cJ0_checkBoundsOffCount_cabcc 2 = .ok (.iload_n 2, 1) := by decide +kernel
theorem dJ0_checkBoundsOffCount_cabcc_3 : decode cJ0_checkBoundsOffCount_cabcc 3 = .ok (.getstatic 1053, 3) := by decide +kernel
theorem dJ0_checkBoundsOffCount_cabcc_6 : decode cJ0_checkBoundsOffCount_cabcc 6 = .ok (.invokestatic 1065, 3) := by decide +kernel
theorem dJ0_checkBoundsOffCount_cabcc_9 : decode cJ0_checkBoundsOffCount_cabcc 9 = .ok (.ireturn, 1) := by decide +kernel
theorem dJ0_checkBoundsBeginEnd_23922_0 : decode cJ0_checkBoundsBeginEnd_23922 0 = .ok (.iload_n 0, 1) := by decide +kernel
theorem dJ0_checkBoundsBeginEnd_23922_1 : decode cJ0_checkBoundsBeginEnd_23922 1 = .ok (.iload_n 1, 1) := by decide +kernel
theorem dJ0_checkBoundsBeginEnd_23922_2 : decode cJ0_checkBoundsBeginEnd_23922 2 = .ok (.iload_n 2, 1) := by decide +kernel
theorem dJ0_checkBoundsBeginEnd_23922_3 : decode cJ0_checkBoundsBeginEnd_23922 3 = .ok (.getstatic 1053, 3) := by decide +kernel
theorem dJ0_checkBoundsBeginEnd_23922_6 : decode cJ0_checkBoundsBeginEnd_23922 6 = .ok (.invokestatic 1062, 3) := by decide +kernel
theorem dJ0_checkBoundsBeginEnd_23922_9 : decode cJ0_checkBoundsBeginEnd_23922 9 = .ok (.pop, 1) := by decide +kernel
theorem dJ0_checkBoundsBeginEnd_23922_10 : decode cJ0_checkBoundsBeginEnd_23922 10 = .ok (.return_, 1) := by decide +kernel
theorem dJ4_init_da8c8_0 : decode cJ4_init_da8c8 0 = .ok (.aload_n 0, 1) := by decide +kernel
theorem dJ4_init_da8c8_1 : decode cJ4_init_da8c8 1 = .ok (.bipush 16, 2) := by decide +kernel
theorem dJ4_init_da8c8_3 : decode cJ4_init_da8c8 3 = .ok (.invokespecial 1, 3) := by decide +kernel
theorem dJ4_init_da8c8_6 : decode cJ4_init_da8c8 6 = .ok (.return_, 1) := by decide +kernel
theorem dJ4_append_cf468_0 : decode cJ4_append_cf468 0 = .ok (.aload_n 0, 1) := by decide +kernel
theorem dJ4_append_cf468_1 : decode cJ4_append_cf468 1 = .ok (.iload_n 1, 1) := by decide +kernel
theorem dJ4_append_cf468_2 : decode cJ4_append_cf468 2 = .ok (.invokespecial 50, 3) := by decide +kernel
theorem dJ4_append_cf468_5 : decode cJ4_append_cf468 5 = .ok (.pop, 1) := by decide +kernel
theorem dJ4_append_cf468_6 : decode cJ4_append_cf468 6 = .ok (.aload_n 0, 1) := by decide +kernel
theorem dJ4_append_cf468_7 : decode cJ4_append_cf468 7 = .ok (.areturn, 1) := by decide +kernel
theorem dJ4_append_bf812_0 : decode cJ4_append_bf812 0 = .ok (.aload_n 0, 1) := by decide +kernel
theorem dJ4_append_bf812_1 : decode cJ4_append_bf812 1 = .ok (.iload_n 1, 1) := by decide +kernel
theorem dJ4_append_bf812_2 : decode cJ4_append_bf812 2 = .ok (.invokespecial 53, 3) := by decide +kernel
theorem dJ4_append_bf812_5 : decode cJ4_append_bf812 5 = .ok (.pop, 1) := by decide +kernel
theorem dJ4_append_bf812_6 : decode cJ4_append_bf812 6 = .ok (.aload_n 0, 1) := by decide +kernel
theorem dJ4_append_bf812_7 : decode cJ4_append_bf812 7 = .ok (.areturn, 1) := by decide +kernel
theorem dJ4_charAt_5068e_0 : decode cJ4_charAt_5068e 0 = .ok (.aload_n 0, 1) := by decide +kernel
theorem dJ4_charAt_5068e_1 : decode cJ4_charAt_5068e 1 = .ok (.iload_n 1, 1) := by decide +kernel
theorem dJ4_charAt_5068e_2 : decode cJ4_charAt_5068e 2 = .ok (.invokespecial 329, 3) := by decide +kernel
theorem dJ4_charAt_5068e_5 : decode cJ4_charAt_5068e 5 = .ok (.ireturn, 1) := by decide +kernel
theorem dJ4_length_8abf5_0 : decode cJ4_length_8abf5 0 = .ok (.aload_n 0, 1) := by decide +kernel
theorem dJ4_length_8abf5_1 : decode cJ4_length_8abf5 1 = .ok (.invokespecial 343, 3) := by decide +kernel
theorem dJ4_length_8abf5_4 : decode cJ4_length_8abf5 4 = .ok (.ireturn, 1) := by decide +kernel
theorem dJ1_canEncode_fc78d_0 : decode cJ1_canEncode_fc78d 0 = .ok (.iload_n 0, 1) := by decide +kernel
theorem dJ1_canEncode_fc78d_1 : decode cJ1_canEncode_fc78d 1 = .ok (.sipush 255, 3) := by decide +kernel
theorem dJ1_canEncode_fc78d_4 : decode cJ1_canEncode_fc78d 4 = .ok (.if_icmp .gt 7, 3) := by decide +kernel
theorem dJ1_canEncode_fc78d_7 : decode cJ1_canEncode_fc78d 7 = .ok (.iconst 1, 1) := by decide +kernel
theorem dJ1_canEncode_fc78d_8 : decode cJ1_canEncode_fc78d 8 = .ok (.goto 4, 3) := by decide +kernel
theorem dJ1_canEncode_fc78d_11 : decode cJ1_canEncode_fc78d 11 = .ok (.iconst 0, 1) := by decide +kernel
theorem dJ1_canEncode_fc78d_12 : decode cJ1_canEncode_fc78d 12 = .ok (.ireturn, 1) := by decide +kernel
theorem dJ1_canEncode_9a6ad_0 : decode cJ1_canEncode_9a6ad 0 = .ok (.iload_n 0, 1) := by decide +kernel
theorem dJ1_canEncode_9a6ad_1 : decode cJ1_canEncode_9a6ad 1 = .ok (.ifCond .lt 14, 3) := by decide +kernel
theorem dJ1_canEncode_9a6ad_4 : decode cJ1_canEncode_9a6ad 4 = .ok (.iload_n 0, 1) := by decide +kernel
theorem dJ1_canEncode_9a6ad_5 : decode cJ1_canEncode_9a6ad 5 = .ok (.sipush 255, 3) := by decide +kernel
theorem dJ1_canEncode_9a6ad_8 : decode cJ1_canEncode_9a6ad 8 = .ok (.if_icmp .gt 7, 3) := by decide +kernel
theorem dJ1_canEncode_9a6ad_11 : decode cJ1_canEncode_9a6ad 11 = .ok (.iconst 1, 1) := by decide +kernel
theorem dJ1_canEncode_9a6ad_12 : decode cJ1_canEncode_9a6ad 12 = .ok (.goto 4, 3) := by decide +kernel
theorem dJ1_canEncode_9a6ad_15 : decode cJ1_canEncode_9a6ad 15 = .ok (.iconst 0, 1) := by decide +kernel
theorem dJ1_canEncode_9a6ad_16 : decode cJ1_canEncode_9a6ad 16 = .ok (.ireturn, 1) := by decide +kernel
theorem dJ1_indexOf_4cfef_0 : decode cJ1_indexOf_4cfef 0 = .ok (.iload_n 1, 1) := by decide +kernel
theorem dJ1_indexOf_4cfef_1 : decode cJ1_indexOf_4cfef 1 = .ok (.invokestatic 88, 3) := by decide +kernel
theorem dJ1_indexOf_4cfef_4 : decode cJ1_indexOf_4cfef 4 = .ok (.ifCond .ne 5, 3) := by decide +kernel
theorem dJ1_indexOf_4cfef_7 : decode cJ1_indexOf_4cfef 7 = .ok (.iconst (-1), 1) := by decide +kernel
theorem dJ1_indexOf_4cfef_8 : decode cJ1_indexOf_4cfef 8 = .ok (.ireturn, 1) := by decide +kernel
theorem dJ1_indexOf_4cfef_9 : decode cJ1_indexOf_4cfef 9 = .ok (.iload_n 2, 1) := by decide +kernel
theorem dJ1_indexOf_4cfef_10 : decode cJ1_indexOf_4cfef 10 = .ok (.iconst 0, 1) := by decide +kernel
theorem dJ1_indexOf_4cfef_11 : decode cJ1_indexOf_4cfef 11 = .ok (.invokestatic 92, 3) := by decide +kernel
theorem dJ1_indexOf_4cfef_14 : decode cJ1_indexOf_4cfef 14 = .ok (.istore_n 2, 1) := by decide +kernel
theorem dJ1_indexOf_4cfef_15 : decode cJ1_indexOf_4cfef 15 = .ok (.iload_n 3, 1) := by decide +kernel
theorem dJ1_indexOf_4cfef_16 : decode cJ1_indexOf_4cfef 16 = .ok (.aload_n 0, 1) := by decide +kernel
theorem dJ1_indexOf_4cfef_17 : decode cJ1_indexOf_4cfef 17 = .ok (.arraylength, 1) := by decide +kernel
theorem dJ1_indexOf_4cfef_18 : decode cJ1_indexOf_4cfef 18 = .ok (.invokestatic 38, 3) := by decide +kernel
theorem dJ1_indexOf_4cfef_21 : decode cJ1_indexOf_4cfef 21 = .ok (.istore_n 3, 1) := by decide +kernel
theorem dJ1_indexOf_4cfef_22 : decode cJ1_indexOf_4cfef 22 = .ok (.iload_n 2, 1) := by decide +kernel
theorem dJ1_indexOf_4cfef_23 : decode cJ1_indexOf_4cfef 23 = .ok (.iload_n 3, 1) := by decide +kernel
theorem dJ1_indexOf_4cfef_24 : decode cJ1_indexOf_4cfef 24 = .ok (.if_icmp .lt 5, 3) := by decide +kernel
theorem dJ1_indexOf_4cfef_27 : decode cJ1_indexOf_4cfef 27 = .ok (.iconst (-1), 1) := by decide +kernel
theorem dJ1_indexOf_4cfef_28 : decode cJ1_indexOf_4cfef 28 = .ok (.ireturn, 1) := by decide +kernel
theorem dJ1_indexOf_4cfef_29 : decode cJ1_indexOf_4cfef 29 = .ok (.aload_n 0, 1) := by decide +kernel
theorem dJ1_indexOf_4cfef_30 : decode cJ1_indexOf_4cfef 30 = .ok (.iload_n 1, 1) := by decide +kernel
theorem dJ1_indexOf_4cfef_31 : decode cJ1_indexOf_4cfef 31 = .ok (.iload_n 2, 1) := by decide +kernel
theorem dJ1_indexOf_4cfef_32 : decode cJ1_indexOf_4cfef 32 = .ok (.iload_n 3, 1) := by decide +kernel
theorem dJ1_indexOf_4cfef_33 : decode cJ1_indexOf_4cfef 33 = .ok (.invokestatic 95, 3) := by decide +kernel
theorem dJ1_indexOf_4cfef_36 : decode cJ1_indexOf_4cfef 36 = .ok (.ireturn, 1) := by decide +kernel
theorem dJ1_indexOfChar_4cfef_0 : decode cJ1_indexOfChar_4cfef 0 = .ok (.iload_n 1, 1) := by decide +kernel
theorem dJ1_indexOfChar_4cfef_1 : decode cJ1_indexOfChar_4cfef 1 = .ok (.i2b, 1) := by decide +kernel
theorem dJ1_indexOfChar_4cfef_2 : decode cJ1_indexOfChar_4cfef 2 = .ok (.istore 4, 2) := by decide +kernel
theorem dJ1_indexOfChar_4cfef_4 : decode cJ1_indexOfChar_4cfef 4 = .ok (.iload_n 2, 1) := by decide +kernel
theorem dJ1_indexOfChar_4cfef_5 : decode cJ1_indexOfChar_4cfef 5 = .ok (.istore 5, 2) := by decide +kernel
theorem dJ1_indexOfChar_4cfef_7 : decode cJ1_indexOfChar_4cfef 7 = .ok (.iload 5, 2) := by decide +kernel
theorem dJ1_indexOfChar_4cfef_9 : decode cJ1_indexOfChar_4cfef 9 = .ok (.iload_n 3, 1) := by decide +kernel
theorem dJ1_indexOfChar_4cfef_10 : decode cJ1_indexOfChar_4cfef 10 = .ok (.if_icmp .ge 21, 3) := by decide +kernel
theorem dJ1_indexOfChar_4cfef_13 : decode cJ1_indexOfChar_4cfef 13 = .ok (.aload_n 0, 1) := by decide +kernel
theorem dJ1_indexOfChar_4cfef_14 : decode cJ1_indexOfChar_4cfef 14 = .ok (.iload 5, 2) := by decide +kernel
theorem dJ1_indexOfChar_4cfef_16 : decode cJ1_indexOfChar_4cfef 16 = .ok (.baload, 1) := by decide +kernel
theorem dJ1_indexOfChar_4cfef_17 : decode cJ1_indexOfChar_4cfef 17 = .ok (.iload 4, 2) := by decide +kernel
theorem dJ1_indexOfChar_4cfef_19 : decode cJ1_indexOfChar_4cfef 19 = .ok (.if_icmp .ne 6, 3) := by decide +kernel
theorem dJ1_indexOfChar_4cfef_22 : decode cJ1_indexOfChar_4cfef 22 = .ok (.iload 5, 2) := by decide +kernel
theorem dJ1_indexOfChar_4cfef_24 : decode cJ1_indexOfChar_4cfef 24 = .ok (.ireturn, 1) := by decide +kernel
theorem dJ1_indexOfChar_4cfef_25 : decode cJ1_indexOfChar_4cfef 25 = .ok (.iinc 5 1, 3) := by decide +kernel
theorem dJ1_indexOfChar_4cfef_28 : decode cJ1_indexOfChar_4cfef 28 = .ok (.goto (-21), 3) := by decide +kernel
theorem dJ1_indexOfChar_4cfef_31 : decode cJ1_indexOfChar_4cfef 31 = .ok (.iconst (-1), 1) := by decide +kernel
theorem dJ1_indexOfChar_4cfef_32 : decode cJ1_indexOfChar_4cfef 32 = .ok (.ireturn, 1) := by decide +kernel
theorem dJ1_inflate_0e8fd_0 : decode cJ1_inflate_0e8fd 0 = .ok (.aload_n 0, 1) := by decide +kernel
theorem dJ1_inflate_0e8fd_1 : decode cJ1_inflate_0e8fd 1 = .ok (.iload_n 1, 1) := by decide +kernel
theorem dJ1_inflate_0e8fd_2 : decode cJ1_inflate_0e8fd 2 = .ok (.aload_n 2, 1) := by decide +kernel
theorem dJ1_inflate_0e8fd_3 : decode cJ1_inflate_0e8fd 3 = .ok (.iload_n 3, 1) := by decide +kernel
theorem dJ1_inflate_0e8fd_4 : decode cJ1_inflate_0e8fd 4 = .ok (.iload 4, 2) := by decide +kernel
theorem dJ1_inflate_0e8fd_6 : decode cJ1_inflate_0e8fd 6 = .ok (.invokestatic 240, 3) := by decide +kernel
theorem dJ1_inflate_0e8fd_9 : decode cJ1_inflate_0e8fd 9 = .ok (.return_, 1) := by decide +kernel
theorem dJ2_newBytesFor_77867_0 : decode cJ2_newBytesFor_77867 0 = .ok (.iload_n 0, 1) := by decide +kernel
theorem dJ2_newBytesFor_77867_1 : decode cJ2_newBytesFor_77867 1 = .ok (.invokestatic 11, 3) := by decide +kernel
theorem dJ2_newBytesFor_77867_4 : decode cJ2_newBytesFor_77867 4 = .ok (.newarray .byte, 2) := by decide +kernel
theorem dJ2_newBytesFor_77867_6 : decode cJ2_newBytesFor_77867 6 = .ok (.areturn, 1) := by decide +kernel
theorem dJ2_newBytesLength_0f7a4_0 : decode cJ2_newBytesLength_0f7a4 0 = .ok (.iload_n 0, 1) := by decide +kernel
theorem dJ2_newBytesLength_0f7a4_1 : decode cJ2_newBytesLength_0f7a4 1 = .ok (.ifCond .ge 11, 3) := by decide +kernel
theorem dJ2_newBytesLength_0f7a4_4 : decode cJ2_newBytesLength_0f7a4 4 = .ok (.new 17, 3) := by decide +kernel
theorem dJ2_newBytesLength_0f7a4_7 : decode cJ2_newBytesLength_0f7a4 7 = .ok (.dup, 1) := by decide +kernel
theorem dJ2_newBytesLength_0f7a4_8 : decode cJ2_newBytesLength_0f7a4 8 = .ok (.invokespecial 19, 3) := by decide +kernel
theorem dJ2_newBytesLength_0f7a4_11 : decode cJ2_newBytesLength_0f7a4 11 = .ok (.athrow, 1) := by decide +kernel
theorem dJ2_newBytesLength_0f7a4_12 : decode cJ2_newBytesLength_0f7a4 12 = .ok (.iload_n 0, 1) := by decide +kernel
theorem dJ2_newBytesLength_0f7a4_13 : decode cJ2_newBytesLength_0f7a4 13 = .ok (.ldc 20, 2) := by decide +kernel
theorem dJ2_newBytesLength_0f7a4_15 : decode cJ2_newBytesLength_0f7a4 15 = .ok (.if_icmp .lt 40, 3) := by decide +kernel
theorem dJ2_newBytesLength_0f7a4_18 : decode cJ2_newBytesLength_0f7a4 18 = .ok (.new 21, 3) := by decide +kernel
theorem dJ2_newBytesLength_0f7a4_21 : decode cJ2_newBytesLength_0f7a4 21 = .ok (.dup, 1) := by decide +kernel
theorem dJ2_newBytesLength_0f7a4_22 : decode cJ2_newBytesLength_0f7a4 22 = .ok (.new 23, 3) := by decide +kernel
theorem dJ2_newBytesLength_0f7a4_25 : decode cJ2_newBytesLength_0f7a4 25 = .ok (.dup, 1) := by decide +kernel
theorem dJ2_newBytesLength_0f7a4_26 : decode cJ2_newBytesLength_0f7a4 26 = .ok (.invokespecial 25, 3) := by decide +kernel
theorem dJ2_newBytesLength_0f7a4_29 : decode cJ2_newBytesLength_0f7a4 29 = .ok (.ldc 26, 2) := by decide +kernel
theorem dJ2_newBytesLength_0f7a4_31 : decode cJ2_newBytesLength_0f7a4 31 = .ok (.invokevirtual 28, 3) := by decide +kernel
theorem dJ2_newBytesLength_0f7a4_34 : decode cJ2_newBytesLength_0f7a4 34 = .ok (.iload_n 0, 1) := by decide +kernel
theorem dJ2_newBytesLength_0f7a4_35 : decode cJ2_newBytesLength_0f7a4 35 = .ok (.invokevirtual 32, 3) := by decide +kernel
theorem dJ2_newBytesLength_0f7a4_38 : decode cJ2_newBytesLength_0f7a4 38 = .ok (.ldc 35, 2) := by decide +kernel
theorem dJ2_newBytesLength_0f7a4_40 : decode cJ2_newBytesLength_0f7a4 40 = .ok (.invokevirtual 28, 3) := by decide +kernel
theorem dJ2_newBytesLength_0f7a4_43 : decode cJ2_newBytesLength_0f7a4 43 = .ok (.ldc 20, 2) := by decide +kernel
theorem dJ2_newBytesLength_0f7a4_45 : decode cJ2_newBytesLength_0f7a4 45 = .ok (.invokevirtual 32, 3) := by decide +kernel
theorem dJ2_newBytesLength_0f7a4_48 : decode cJ2_newBytesLength_0f7a4 48 = .ok (.invokevirtual 37, 3) := by decide +kernel
theorem dJ2_newBytesLength_0f7a4_51 : decode cJ2_newBytesLength_0f7a4 51 = .ok (.invokespecial 41, 3) := by decide +kernel
theorem dJ2_newBytesLength_0f7a4_54 : decode cJ2_newBytesLength_0f7a4 54 = .ok (.athrow, 1) := by decide +kernel
theorem dJ2_newBytesLength_0f7a4_55 : decode cJ2_newBytesLength_0f7a4 55 = .ok (.iload_n 0, 1) := by decide +kernel
theorem dJ2_newBytesLength_0f7a4_56 : decode cJ2_newBytesLength_0f7a4 56 = .ok (.iconst 1, 1) := by decide +kernel
theorem dJ2_newBytesLength_0f7a4_57 : decode cJ2_newBytesLength_0f7a4 57 = .ok (.ishl, 1) := by decide +kernel
theorem dJ2_newBytesLength_0f7a4_58 : decode cJ2_newBytesLength_0f7a4 58 = .ok (.ireturn, 1) := by decide +kernel
theorem dJ2_putChar_b72d1_0 : decode cJ2_putChar_b72d1 0 = .ok (.getstatic 44, 3) := by decide +kernel
theorem dJ2_putChar_b72d1_3 : decode cJ2_putChar_b72d1 3 = .ok (.ifCond .ne 25, 3) := by decide +kernel
theorem dJ2_putChar_b72d1_6 : decode cJ2_putChar_b72d1 6 = .ok (.iload_n 1, 1) := by decide +kernel
theorem dJ2_putChar_b72d1_7 : decode cJ2_putChar_b72d1 7 = .ok (.ifCond .lt 11, 3) := by decide +kernel
theorem dJ2_putChar_b72d1_10 : decode cJ2_putChar_b72d1 10 = .ok (.iload_n 1, 1) := by decide +kernel
theorem dJ2_putChar_b72d1_11 : decode cJ2_putChar_b72d1 11 = .ok (.aload_n 0, 1) := by decide +kernel
theorem dJ2_putChar_b72d1_12 : decode cJ2_putChar_b72d1 12 = .ok (.invokestatic 48, 3) := by decide +kernel
theorem dJ2_putChar_b72d1_15 : decode cJ2_putChar_b72d1 15 = .ok (.if_icmp .lt 13, 3) := by decide +kernel
theorem dJ2_putChar_b72d1_18 : decode cJ2_putChar_b72d1 18 = .ok (.new 52, 3) := by decide +kernel
theorem dJ2_putChar_b72d1_21 : decode cJ2_putChar_b72d1 21 = .ok (.dup, 1) := by decide +kernel
theorem dJ2_putChar_b72d1_22 : decode cJ2_putChar_b72d1 22 = .ok (.ldc 54, 2) := by decide +kernel
theorem dJ2_putChar_b72d1_24 : decode cJ2_putChar_b72d1 24 = .ok (.invokespecial 56, 3) := by decide +kernel
theorem dJ2_putChar_b72d1_27 : decode cJ2_putChar_b72d1 27 = .ok (.athrow, 1) := by decide +kernel
theorem dJ2_putChar_b72d1_28 : decode cJ2_putChar_b72d1 28 = .ok (.iload_n 1, 1) := by decide +kernel
theorem dJ2_putChar_b72d1_29 : decode cJ2_putChar_b72d1 29 = .ok (.iconst 1, 1) := by decide +kernel
theorem dJ2_putChar_b72d1_30 : decode cJ2_putChar_b72d1 30 = .ok (.ishl, 1) := by decide +kernel
theorem dJ2_putChar_b72d1_31 : decode cJ2_putChar_b72d1 31 = .ok (.istore_n 1, 1) := by decide +kernel
theorem dJ2_putChar_b72d1_32 : decode cJ2_putChar_b72d1 32 = .ok (.aload_n 0, 1) := by decide +kernel
theorem dJ2_putChar_b72d1_33 : decode cJ2_putChar_b72d1 33 = .ok (.iload_n 1, 1) := by decide +kernel
theorem dJ2_putChar_b72d1_34 : decode cJ2_putChar_b72d1 34 = .ok (.iinc 1 1, 3) := by decide +kernel
theorem dJ2_putChar_b72d1_37 : decode cJ2_putChar_b72d1 37 = .ok (.iload_n 2, 1) := by decide +kernel
theorem dJ2_putChar_b72d1_38 : decode cJ2_putChar_b72d1 38 = .ok (.getstatic 59, 3) := by decide +kernel
theorem dJ2_putChar_b72d1_41 : decode cJ2_putChar_b72d1 41 = .ok (.ishr, 1) := by decide +kernel
theorem dJ2_putChar_b72d1_42 : decode cJ2_putChar_b72d1 42 = .ok (.i2b, 1) := by decide +kernel
theorem dJ2_putChar_b72d1_43 : decode cJ2_putChar_b72d1 43 = .ok (.bastore, 1) := by decide +kernel
theorem dJ2_putChar_b72d1_44 : decode cJ2_putChar_b72d1 44 = .ok (.aload_n 0, 1) := by decide +kernel
theorem dJ2_putChar_b72d1_45 : decode cJ2_putChar_b72d1 45 = .ok (.iload_n 1, 1) := by decide +kernel
theorem dJ2_putChar_b72d1_46 : decode cJ2_putChar_b72d1 46 = .ok (.iload_n 2, 1) := by decide +kernel
theorem dJ2_putChar_b72d1_47 : decode cJ2_putChar_b72d1 47 = .ok (.getstatic 63, 3) := by decide +kernel
theorem dJ2_putChar_b72d1_50 : decode cJ2_putChar_b72d1 50 = .ok (.ishr, 1) := by decide +kernel
theorem dJ2_putChar_b72d1_51 : decode cJ2_putChar_b72d1 51 = .ok (.i2b, 1) := by decide +kernel
theorem dJ2_putChar_b72d1_52 : decode cJ2_putChar_b72d1 52 = .ok (.bastore, 1) := by decide +kernel
theorem dJ2_putChar_b72d1_53 : decode cJ2_putChar_b72d1 53 = .ok (.return_, 1) := by decide +kernel
theorem dJ2_getChar_3b067_0 : decode cJ2_getChar_3b067 0 = .ok (.getstatic 44, 3) := by decide +kernel
theorem dJ2_getChar_3b067_3 : decode cJ2_getChar_3b067 3 = .ok (.ifCond .ne 25, 3) := by decide +kernel
theorem dJ2_getChar_3b067_6 : decode cJ2_getChar_3b067 6 = .ok (.iload_n 1, 1) := by decide +kernel
theorem dJ2_getChar_3b067_7 : decode cJ2_getChar_3b067 7 = .ok (.ifCond .lt 11, 3) := by decide +kernel
theorem dJ2_getChar_3b067_10 : decode cJ2_getChar_3b067 10 = .ok (.iload_n 1, 1) := by decide +kernel
theorem dJ2_getChar_3b067_11 : decode cJ2_getChar_3b067 11 = .ok (.aload_n 0, 1) := by decide +kernel
theorem dJ2_getChar_3b067_12 : decode cJ2_getChar_3b067 12 = .ok (.invokestatic 48, 3) := by decide +kernel
theorem dJ2_getChar_3b067_15 : decode cJ2_getChar_3b067 15 = .ok (.if_icmp .lt 13, 3) := by decide +kernel
theorem dJ2_getChar_3b067_18 : decode cJ2_getChar_3b067 18 = .ok (.new 52, 3) := by decide +kernel
theorem dJ2_getChar_3b067_21 : decode cJ2_getChar_3b067 21 = .ok (.dup, 1) := by decide +kernel
theorem dJ2_getChar_3b067_22 : decode cJ2_getChar_3b067 22 = .ok (.ldc 54, 2) := by decide +kernel
theorem dJ2_getChar_3b067_24 : decode cJ2_getChar_3b067 24 = .ok (.invokespecial 56, 3) := by decide +kernel
theorem dJ2_getChar_3b067_27 : decode cJ2_getChar_3b067 27 = .ok (.athrow, 1) := by decide +kernel
theorem dJ2_getChar_3b067_28 : decode cJ2_getChar_3b067 28 = .ok (.iload_n 1, 1) := by decide +kernel
theorem dJ2_getChar_3b067_29 : decode cJ2_getChar_3b067 29 = .ok (.iconst 1, 1) := by decide +kernel
theorem dJ2_getChar_3b067_30 : decode cJ2_getChar_3b067 30 = .ok (.ishl, 1) := by decide +kernel
theorem dJ2_getChar_3b067_31 : decode cJ2_getChar_3b067 31 = .ok (.istore_n 1, 1) := by decide +kernel
theorem dJ2_getChar_3b067_32 : decode cJ2_getChar_3b067 32 = .ok (.aload_n 0, 1) := by decide +kernel
theorem dJ2_getChar_3b067_33 : decode cJ2_getChar_3b067 33 = .ok (.iload_n 1, 1) := by decide +kernel
theorem dJ2_getChar_3b067_34 : decode cJ2_getChar_3b067 34 = .ok (.iinc 1 1, 3) := by decide +kernel
theorem dJ2_getChar_3b067_37 : decode cJ2_getChar_3b067 37 = .ok (.baload, 1) := by decide +kernel
theorem dJ2_getChar_3b067_38 : decode cJ2_getChar_3b067 38 = .ok (.sipush 255, 3) := by decide +kernel
theorem dJ2_getChar_3b067_41 : decode cJ2_getChar_3b067 41 = .ok (.iand, 1) := by decide +kernel
theorem dJ2_getChar_3b067_42 : decode cJ2_getChar_3b067 42 = .ok (.getstatic 59, 3) := by decide +kernel
theorem dJ2_getChar_3b067_45 : decode cJ2_getChar_3b067 45 = .ok (.ishl, 1) := by decide +kernel
theorem dJ2_getChar_3b067_46 : decode cJ2_getChar_3b067 46 = .ok (.aload_n 0, 1) := by decide +kernel
theorem dJ2_getChar_3b067_47 : decode cJ2_getChar_3b067 47 = .ok (.iload_n 1, 1) := by decide +kernel
theorem dJ2_getChar_3b067_48 : decode cJ2_getChar_3b067 48 = .ok (.baload, 1) := by decide +kernel
theorem dJ2_getChar_3b067_49 : decode cJ2_getChar_3b067 49 = .ok (.sipush 255, 3) := by decide +kernel
theorem dJ2_getChar_3b067_52 : decode cJ2_getChar_3b067 52 = .ok (.iand, 1) := by decide +kernel
theorem dJ2_getChar_3b067_53 : decode cJ2_getChar_3b067 53 = .ok (.getstatic 63, 3) := by decide +kernel
theorem dJ2_getChar_3b067_56 : decode cJ2_getChar_3b067 56 = .ok (.ishl, 1) := by decide +kernel
theorem dJ2_getChar_3b067_57 : decode cJ2_getChar_3b067 57 = .ok (.ior, 1) := by decide +kernel
theorem dJ2_getChar_3b067_58 : decode cJ2_getChar_3b067 58 = .ok (.i2c, 1) := by decide +kernel
theorem dJ2_getChar_3b067_59 : decode cJ2_getChar_3b067 59 = .ok (.ireturn, 1) := by decide +kernel
theorem dJ2_length_9d52b_0 : decode cJ2_length_9d52b 0 = .ok (.aload_n 0, 1) := by decide +kernel
theorem dJ2_length_9d52b_1 : decode cJ2_length_9d52b 1 = .ok (.arraylength, 1) := by decide +kernel
theorem dJ2_length_9d52b_2 : decode cJ2_length_9d52b 2 = .ok (.iconst 1, 1) := by decide +kernel
theorem dJ2_length_9d52b_3 : decode cJ2_length_9d52b 3 = .ok (.ishr, 1) := by decide +kernel
theorem dJ2_length_9d52b_4 : decode cJ2_length_9d52b 4 = .ok (.ireturn, 1) := by decide +kernel
theorem dJ2_indexOf_4cfef_0 : decode cJ2_indexOf_4cfef 0 = .ok (.iload_n 2, 1) := by decide +kernel
theorem dJ2_indexOf_4cfef_1 : decode cJ2_indexOf_4cfef 1 = .ok (.iconst 0, 1) := by decide +kernel
theorem dJ2_indexOf_4cfef_2 : decode cJ2_indexOf_4cfef 2 = .ok (.invokestatic 224, 3) := by decide +kernel
theorem dJ2_indexOf_4cfef_5 : decode cJ2_indexOf_4cfef 5 = .ok (.istore_n 2, 1) := by decide +kernel
theorem dJ2_indexOf_4cfef_6 : decode cJ2_indexOf_4cfef 6 = .ok (.iload_n 3, 1) := by decide +kernel
theorem dJ2_indexOf_4cfef_7 : decode cJ2_indexOf_4cfef 7 = .ok (.aload_n 0, 1) := by decide +kernel
theorem dJ2_indexOf_4cfef_8 : decode cJ2_indexOf_4cfef 8 = .ok (.arraylength, 1) := by decide +kernel
theorem dJ2_indexOf_4cfef_9 : decode cJ2_indexOf_4cfef 9 = .ok (.iconst 1, 1) := by decide +kernel
theorem dJ2_indexOf_4cfef_10 : decode cJ2_indexOf_4cfef 10 = .ok (.ishr, 1) := by decide +kernel
theorem dJ2_indexOf_4cfef_11 : decode cJ2_indexOf_4cfef 11 = .ok (.invokestatic 183, 3) := by decide +kernel
theorem dJ2_indexOf_4cfef_14 : decode cJ2_indexOf_4cfef 14 = .ok (.istore_n 3, 1) := by decide +kernel
theorem dJ2_indexOf_4cfef_15 : decode cJ2_indexOf_4cfef 15 = .ok (.iload_n 2, 1) := by decide +kernel
theorem dJ2_indexOf_4cfef_16 : decode cJ2_indexOf_4cfef 16 = .ok (.iload_n 3, 1) := by decide +kernel
theorem dJ2_indexOf_4cfef_17 : decode cJ2_indexOf_4cfef 17 = .ok (.if_icmp .lt 5, 3) := by decide +kernel
theorem dJ2_indexOf_4cfef_20 : decode cJ2_indexOf_4cfef 20 = .ok (.iconst (-1), 1) := by decide +kernel
theorem dJ2_indexOf_4cfef_21 : decode cJ2_indexOf_4cfef 21 = .ok (.ireturn, 1) := by decide +kernel
theorem dJ2_indexOf_4cfef_22 : decode cJ2_indexOf_4cfef 22 = .ok (.iload_n 1, 1) := by decide +kernel
theorem dJ2_indexOf_4cfef_23 : decode cJ2_indexOf_4cfef 23 = .ok (.ldc 227, 2) := by decide +kernel
theorem dJ2_indexOf_4cfef_25 : decode cJ2_indexOf_4cfef 25 = .ok (.if_icmp .ge 11, 3) := by decide +kernel
theorem dJ2_indexOf_4cfef_28 : decode cJ2_indexOf_4cfef 28 = .ok (.aload_n 0, 1) := by decide +kernel
theorem dJ2_indexOf_4cfef_29 : decode cJ2_indexOf_4cfef 29 = .ok (.iload_n 1, 1) := by decide +kernel
theorem dJ2_indexOf_4cfef_30 : decode cJ2_indexOf_4cfef 30 = .ok (.iload_n 2, 1) := by decide +kernel
theorem dJ2_indexOf_4cfef_31 : decode cJ2_indexOf_4cfef 31 = .ok (.iload_n 3, 1) := by decide +kernel
theorem dJ2_indexOf_4cfef_32 : decode cJ2_indexOf_4cfef 32 = .ok (.invokestatic 228, 3) := by decide +kernel
theorem dJ2_indexOf_4cfef_35 : decode cJ2_indexOf_4cfef 35 = .ok (.ireturn, 1) := by decide +kernel
theorem dJ2_indexOf_4cfef_36 : decode cJ2_indexOf_4cfef 36 = .ok (.aload_n 0, 1) := by decide +kernel
theorem dJ2_indexOf_4cfef_37 : decode cJ2_indexOf_4cfef 37 = .ok (.iload_n 1, 1) := by decide +kernel
theorem dJ2_indexOf_4cfef_38 : decode cJ2_indexOf_4cfef 38 = .ok (.iload_n 2, 1) := by decide +kernel
theorem dJ2_indexOf_4cfef_39 : decode cJ2_indexOf_4cfef 39 = .ok (.iload_n 3, 1) := by decide +kernel
theorem dJ2_indexOf_4cfef_40 : decode cJ2_indexOf_4cfef 40 = .ok (.invokestatic 232, 3) := by decide +kernel
theorem dJ2_indexOf_4cfef_43 : decode cJ2_indexOf_4cfef 43 = .ok (.ireturn, 1) := by decide +kernel
theorem dJ2_indexOfChar_4cfef_0 : decode cJ2_indexOfChar_4cfef 0 = .ok (.iload_n 2, 1) := by decide +kernel
theorem dJ2_indexOfChar_4cfef_1 : decode cJ2_indexOfChar_4cfef 1 = .ok (.iload_n 3, 1) := by decide +kernel
theorem dJ2_indexOfChar_4cfef_2 : decode cJ2_indexOfChar_4cfef 2 = .ok (.aload_n 0, 1) := by decide +kernel
theorem dJ2_indexOfChar_4cfef_3 : decode cJ2_indexOfChar_4cfef 3 = .ok (.invokestatic 96, 3) := by decide +kernel
theorem dJ2_indexOfChar_4cfef_6 : decode cJ2_indexOfChar_4cfef 6 = .ok (.aload_n 0, 1) := by decide +kernel
theorem dJ2_indexOfChar_4cfef_7 : decode cJ2_indexOfChar_4cfef 7 = .ok (.iload_n 1, 1) := by decide +kernel
theorem dJ2_indexOfChar_4cfef_8 : decode cJ2_indexOfChar_4cfef 8 = .ok (.iload_n 2, 1) := by decide +kernel
theorem dJ2_indexOfChar_4cfef_9 : decode cJ2_indexOfChar_4cfef 9 = .ok (.iload_n 3, 1) := by decide +kernel
theorem dJ2_indexOfChar_4cfef_10 : decode cJ2_indexOfChar_4cfef 10 = .ok (.invokestatic 244, 3) := by decide +kernel
theorem dJ2_indexOfChar_4cfef_13 : decode cJ2_indexOfChar_4cfef 13 = .ok (.ireturn, 1) := by decide +kernel
theorem dJ2_indexOfCharUnsafe_4cfef_0 : decode cJ2_indexOfCharUnsafe_4cfef 0 = .ok (.iload_n 2, 1) := by decide +kernel
theorem dJ2_indexOfCharUnsafe_4cfef_1 : decode cJ2_indexOfCharUnsafe_4cfef 1 = .ok (.istore 4, 2) := by decide +kernel
theorem dJ2_indexOfCharUnsafe_4cfef_3 : decode cJ2_indexOfCharUnsafe_4cfef 3 = .ok (.iload 4, 2) := by decide +kernel
theorem dJ2_indexOfCharUnsafe_4cfef_5 : decode cJ2_indexOfCharUnsafe_4cfef 5 = .ok (.iload_n 3, 1) := by decide +kernel
theorem dJ2_indexOfCharUnsafe_4cfef_6 : decode cJ2_indexOfCharUnsafe_4cfef 6 = .ok (.if_icmp .ge 22, 3) := by decide +kernel
theorem dJ2_indexOfCharUnsafe_4cfef_9 : decode cJ2_indexOfCharUnsafe_4cfef 9 = .ok (.aload_n 0, 1) := by decide +kernel
theorem dJ2_indexOfCharUnsafe_4cfef_10 : decode cJ2_indexOfCharUnsafe_4cfef 10 = .ok (.iload 4, 2) := by decide +kernel
theorem dJ2_indexOfCharUnsafe_4cfef_12 : decode cJ2_indexOfCharUnsafe_4cfef 12 = .ok (.invokestatic 71, 3) := by decide +kernel
theorem dJ2_indexOfCharUnsafe_4cfef_15 : decode cJ2_indexOfCharUnsafe_4cfef 15 = .ok (.iload_n 1, 1) := by decide +kernel
theorem dJ2_indexOfCharUnsafe_4cfef_16 : decode cJ2_indexOfCharUnsafe_4cfef 16 = .ok (.if_icmp .ne 6, 3) := by decide +kernel
theorem dJ2_indexOfCharUnsafe_4cfef_19 : decode cJ2_indexOfCharUnsafe_4cfef 19 = .ok (.iload 4, 2) := by decide +kernel
theorem dJ2_indexOfCharUnsafe_4cfef_21 : decode cJ2_indexOfCharUnsafe_4cfef 21 = .ok (.ireturn, 1) := by decide +kernel
theorem dJ2_indexOfCharUnsafe_4cfef_22 : decode cJ2_indexOfCharUnsafe_4cfef 22 = .ok (.iinc 4 1, 3) := by decide +kernel
theorem dJ2_indexOfCharUnsafe_4cfef_25 : decode cJ2_indexOfCharUnsafe_4cfef 25 = .ok (.goto (-22), 3) := by decide +kernel
theorem dJ2_indexOfCharUnsafe_4cfef_28 : decode cJ2_indexOfCharUnsafe_4cfef 28 = .ok (.iconst (-1), 1) := by decide +kernel
theorem dJ2_indexOfCharUnsafe_4cfef_29 : decode cJ2_indexOfCharUnsafe_4cfef 29 = .ok (.ireturn, 1) := by decide +kernel
theorem dJ2_indexOfSupplementary_4cfef_0 : decode cJ2_indexOfSupplementary_4cfef 0 = .ok (.iload_n 1, 1) := by decide +kernel
theorem dJ2_indexOfSupplementary_4cfef_1 : decode cJ2_indexOfSupplementary_4cfef 1 = .ok (.invokestatic 164, 3) := by decide +kernel
theorem dJ2_indexOfSupplementary_4cfef_4 : decode cJ2_indexOfSupplementary_4cfef 4 = .ok (.ifCond .eq 65, 3) := by decide +kernel
theorem dJ2_indexOfSupplementary_4cfef_7 : decode cJ2_indexOfSupplementary_4cfef 7 = .ok (.iload_n 1, 1) := by decide +kernel
theorem dJ2_indexOfSupplementary_4cfef_8 : decode cJ2_indexOfSupplementary_4cfef 8 = .ok (.invokestatic 157, 3) := by decide +kernel
theorem dJ2_indexOfSupplementary_4cfef_11 : decode cJ2_indexOfSupplementary_4cfef 11 = .ok (.istore 4, 2) := by decide +kernel
theorem dJ2_indexOfSupplementary_4cfef_13 : decode cJ2_indexOfSupplementary_4cfef 13 = .ok (.iload_n 1, 1) := by decide +kernel
theorem dJ2_indexOfSupplementary_4cfef_14 : decode cJ2_indexOfSupplementary_4cfef 14 = .ok (.invokestatic 161, 3) := by decide +kernel
theorem dJ2_indexOfSupplementary_4cfef_17 : decode cJ2_indexOfSupplementary_4cfef 17 = .ok (.istore 5, 2) := by decide +kernel
theorem dJ2_indexOfSupplementary_4cfef_19 : decode cJ2_indexOfSupplementary_4cfef 19 = .ok (.iload_n 2, 1) := by decide +kernel
theorem dJ2_indexOfSupplementary_4cfef_20 : decode cJ2_indexOfSupplementary_4cfef 20 = .ok (.iload_n 3, 1) := by decide +kernel
theorem dJ2_indexOfSupplementary_4cfef_21 : decode cJ2_indexOfSupplementary_4cfef 21 = .ok (.aload_n 0, 1) := by decide +kernel
theorem dJ2_indexOfSupplementary_4cfef_22 : decode cJ2_indexOfSupplementary_4cfef 22 = .ok (.invokestatic 96, 3) := by decide +kernel
theorem dJ2_indexOfSupplementary_4cfef_25 : decode cJ2_indexOfSupplementary_4cfef 25 = .ok (.iload_n 2, 1) := by decide +kernel
theorem dJ2_indexOfSupplementary_4cfef_26 : decode cJ2_indexOfSupplementary_4cfef 26 = .ok (.istore 6, 2) := by decide +kernel
theorem dJ2_indexOfSupplementary_4cfef_28 : decode cJ2_indexOfSupplementary_4cfef 28 = .ok (.iload 6, 2) := by decide +kernel
theorem dJ2_indexOfSupplementary_4cfef_30 : decode cJ2_indexOfSupplementary_4cfef 30 = .ok (.iload_n 3, 1) := by decide +kernel
theorem dJ2_indexOfSupplementary_4cfef_31 : decode cJ2_indexOfSupplementary_4cfef 31 = .ok (.iconst 1, 1) := by decide +kernel
theorem dJ2_indexOfSupplementary_4cfef_32 : decode cJ2_indexOfSupplementary_4cfef 32 = .ok (.isub, 1) := by decide +kernel
theorem dJ2_indexOfSupplementary_4cfef_33 : decode cJ2_indexOfSupplementary_4cfef 33 = .ok (.if_icmp .ge 36, 3) := by decide +kernel
theorem dJ2_indexOfSupplementary_4cfef_36 : decode cJ2_indexOfSupplementary_4cfef 36 = .ok (.aload_n 0, 1) := by decide +kernel
theorem dJ2_indexOfSupplementary_4cfef_37 : decode cJ2_indexOfSupplementary_4cfef 37 = .ok (.iload 6, 2) := by decide +kernel
theorem dJ2_indexOfSupplementary_4cfef_39 : decode cJ2_indexOfSupplementary_4cfef 39 = .ok (.invokestatic 71, 3) := by decide +kernel
theorem dJ2_indexOfSupplementary_4cfef_42 : decode cJ2_indexOfSupplementary_4cfef 42 = .ok (.iload 4, 2) := by decide +kernel
theorem dJ2_indexOfSupplementary_4cfef_44 : decode cJ2_indexOfSupplementary_4cfef 44 = .ok (.if_icmp .ne 19, 3) := by decide +kernel
theorem dJ2_indexOfSupplementary_4cfef_47 : decode cJ2_indexOfSupplementary_4cfef 47 = .ok (.aload_n 0, 1) := by decide +kernel
theorem dJ2_indexOfSupplementary_4cfef_48 : decode cJ2_indexOfSupplementary_4cfef 48 = .ok (.iload 6, 2) := by decide +kernel
theorem dJ2_indexOfSupplementary_4cfef_50 : decode cJ2_indexOfSupplementary_4cfef 50 = .ok (.iconst 1, 1) := by decide +kernel
theorem dJ2_indexOfSupplementary_4cfef_51 : decode cJ2_indexOfSupplementary_4cfef 51 = .ok (.iadd, 1) := by decide +kernel
theorem dJ2_indexOfSupplementary_4cfef_52 : decode cJ2_indexOfSupplementary_4cfef 52 = .ok (.invokestatic 71, 3) := by decide +kernel
theorem dJ2_indexOfSupplementary_4cfef_55 : decode cJ2_indexOfSupplementary_4cfef 55 = .ok (.iload 5, 2) := by decide +kernel
theorem dJ2_indexOfSupplementary_4cfef_57 : decode cJ2_indexOfSupplementary_4cfef 57 = .ok (.if_icmp .ne 6, 3) := by decide +kernel
theorem dJ2_indexOfSupplementary_4cfef_60 : decode cJ2_indexOfSupplementary_4cfef 60 = .ok (.iload 6, 2) := by decide +kernel
theorem dJ2_indexOfSupplementary_4cfef_62 : decode cJ2_indexOfSupplementary_4cfef 62 = .ok (.ireturn, 1) := by decide +kernel
theorem dJ2_indexOfSupplementary_4cfef_63 : decode cJ2_indexOfSupplementary_4cfef 63 = .ok (.iinc 6 1, 3) := by decide +kernel
theorem dJ2_indexOfSupplementary_4cfef_66 : decode cJ2_indexOfSupplementary_4cfef 66 = .ok (.goto (-38), 3) := by decide +kernel
theorem dJ2_indexOfSupplementary_4cfef_69 : decode cJ2_indexOfSupplementary_4cfef 69 = .ok (.iconst (-1), 1) := by decide +kernel
theorem dJ2_indexOfSupplementary_4cfef_70 : decode cJ2_indexOfSupplementary_4cfef 70 = .ok (.ireturn, 1) := by decide +kernel
theorem dJ2_putCharSB_b72d1_0 : decode cJ2_putCharSB_b72d1 0 = .ok (.iload_n 1, 1) := by decide +kernel
theorem dJ2_putCharSB_b72d1_1 : decode cJ2_putCharSB_b72d1 1 = .ok (.aload_n 0, 1) := by decide +kernel
theorem dJ2_putCharSB_b72d1_2 : decode cJ2_putCharSB_b72d1 2 = .ok (.invokestatic 67, 3) := by decide +kernel
theorem dJ2_putCharSB_b72d1_5 : decode cJ2_putCharSB_b72d1 5 = .ok (.aload_n 0, 1) := by decide +kernel
theorem dJ2_putCharSB_b72d1_6 : decode cJ2_putCharSB_b72d1 6 = .ok (.iload_n 1, 1) := by decide +kernel
theorem dJ2_putCharSB_b72d1_7 : decode cJ2_putCharSB_b72d1 7 = .ok (.iload_n 2, 1) := by decide +kernel
theorem dJ2_putCharSB_b72d1_8 : decode cJ2_putCharSB_b72d1 8 = .ok (.invokestatic 111, 3) := by decide +kernel
theorem dJ2_putCharSB_b72d1_11 : decode cJ2_putCharSB_b72d1 11 = .ok (.return_, 1) := by decide +kernel
theorem dJ2_getChars_46870_0 : decode cJ2_getChars_46870 0 = .ok (.iload_n 1, 1) := by decide +kernel
theorem dJ2_getChars_46870_1 : decode cJ2_getChars_46870 1 = .ok (.iload_n 2, 1) := by decide +kernel
theorem dJ2_getChars_46870_2 : decode cJ2_getChars_46870 2 = .ok (.aload_n 3, 1) := by decide +kernel
theorem dJ2_getChars_46870_3 : decode cJ2_getChars_46870 3 = .ok (.invokestatic 96, 3) := by decide +kernel
theorem dJ2_getChars_46870_6 : decode cJ2_getChars_46870 6 = .ok (.iload_n 0, 1) := by decide +kernel
theorem dJ2_getChars_46870_7 : decode cJ2_getChars_46870 7 = .ok (.iload_n 2, 1) := by decide +kernel
theorem dJ2_getChars_46870_8 : decode cJ2_getChars_46870 8 = .ok (.aload_n 3, 1) := by decide +kernel
theorem dJ2_getChars_46870_9 : decode cJ2_getChars_46870 9 = .ok (.invokestatic 393, 3) := by decide +kernel
theorem dJ2_getChars_46870_12 : decode cJ2_getChars_46870 12 = .ok (.istore 4, 2) := by decide +kernel
theorem dJ2_getChars_46870_14 : decode cJ2_getChars_46870 14 = .ok (.getstatic 44, 3) := by decide +kernel
theorem dJ2_getChars_46870_17 : decode cJ2_getChars_46870 17 = .ok (.ifCond .ne 17, 3) := by decide +kernel
theorem dJ2_getChars_46870_20 : decode cJ2_getChars_46870 20 = .ok (.iload_n 1, 1) := by decide +kernel
theorem dJ2_getChars_46870_21 : decode cJ2_getChars_46870 21 = .ok (.iload 4, 2) := by decide +kernel
theorem dJ2_getChars_46870_23 : decode cJ2_getChars_46870 23 = .ok (.if_icmp .eq 11, 3) := by decide +kernel
theorem dJ2_getChars_46870_26 : decode cJ2_getChars_46870 26 = .ok (.new 52, 3) := by decide +kernel
theorem dJ2_getChars_46870_29 : decode cJ2_getChars_46870 29 = .ok (.dup, 1) := by decide +kernel
theorem dJ2_getChars_46870_30 : decode cJ2_getChars_46870 30 = .ok (.invokespecial 66, 3) := by decide +kernel
theorem dJ2_getChars_46870_33 : decode cJ2_getChars_46870 33 = .ok (.athrow, 1) := by decide +kernel
theorem dJ2_getChars_46870_34 : decode cJ2_getChars_46870 34 = .ok (.iload 4, 2) := by decide +kernel
theorem dJ2_getChars_46870_36 : decode cJ2_getChars_46870 36 = .ok (.ireturn, 1) := by decide +kernel
theorem dJ2_inflate_0e8fd_0 : decode cJ2_inflate_0e8fd 0 = .ok (.iload_n 3, 1) := by decide +kernel
theorem dJ2_inflate_0e8fd_1 : decode cJ2_inflate_0e8fd 1 = .ok (.iload 4, 2) := by decide +kernel
theorem dJ2_inflate_0e8fd_3 : decode cJ2_inflate_0e8fd 3 = .ok (.aload_n 2, 1) := by decide +kernel
theorem dJ2_inflate_0e8fd_4 : decode cJ2_inflate_0e8fd 4 = .ok (.invokestatic 173, 3) := by decide +kernel
theorem dJ2_inflate_0e8fd_7 : decode cJ2_inflate_0e8fd 7 = .ok (.iconst 0, 1) := by decide +kernel
theorem dJ2_inflate_0e8fd_8 : decode cJ2_inflate_0e8fd 8 = .ok (.istore 5, 2) := by decide +kernel
theorem dJ2_inflate_0e8fd_10 : decode cJ2_inflate_0e8fd 10 = .ok (.iload 5, 2) := by decide +kernel
theorem dJ2_inflate_0e8fd_12 : decode cJ2_inflate_0e8fd 12 = .ok (.iload 4, 2) := by decide +kernel
theorem dJ2_inflate_0e8fd_14 : decode cJ2_inflate_0e8fd 14 = .ok (.if_icmp .ge 27, 3) := by decide +kernel
theorem dJ2_inflate_0e8fd_17 : decode cJ2_inflate_0e8fd 17 = .ok (.aload_n 2, 1) := by decide +kernel
theorem dJ2_inflate_0e8fd_18 : decode cJ2_inflate_0e8fd 18 = .ok (.iload_n 3, 1) := by decide +kernel
theorem dJ2_inflate_0e8fd_19 : decode cJ2_inflate_0e8fd 19 = .ok (.iinc 3 1, 3) := by decide +kernel
theorem dJ2_inflate_0e8fd_22 : decode cJ2_inflate_0e8fd 22 = .ok (.aload_n 0, 1) := by decide +kernel
theorem dJ2_inflate_0e8fd_23 : decode cJ2_inflate_0e8fd 23 = .ok (.iload_n 1, 1) := by decide +kernel
theorem dJ2_inflate_0e8fd_24 : decode cJ2_inflate_0e8fd 24 = .ok (.iinc 1 1, 3) := by decide +kernel
theorem dJ2_inflate_0e8fd_27 : decode cJ2_inflate_0e8fd 27 = .ok (.baload, 1) := by decide +kernel
theorem dJ2_inflate_0e8fd_28 : decode cJ2_inflate_0e8fd 28 = .ok (.sipush 255, 3) := by decide +kernel
theorem dJ2_inflate_0e8fd_31 : decode cJ2_inflate_0e8fd 31 = .ok (.iand, 1) := by decide +kernel
theorem dJ2_inflate_0e8fd_32 : decode cJ2_inflate_0e8fd 32 = .ok (.invokestatic 111, 3) := by decide +kernel
theorem dJ2_inflate_0e8fd_35 : decode cJ2_inflate_0e8fd 35 = .ok (.iinc 5 1, 3) := by decide +kernel
theorem dJ2_inflate_0e8fd_38 : decode cJ2_inflate_0e8fd 38 = .ok (.goto (-28), 3) := by decide +kernel
theorem dJ2_inflate_0e8fd_41 : decode cJ2_inflate_0e8fd 41 = .ok (.return_, 1) := by decide +kernel
theorem dJ2_getChars_ba4f3_0 : decode cJ2_getChars_ba4f3 0 = .ok (.iload_n 1, 1) := by decide +kernel
theorem dJ2_getChars_ba4f3_1 : decode cJ2_getChars_ba4f3 1 = .ok (.istore 5, 2) := by decide +kernel
theorem dJ2_getChars_ba4f3_3 : decode cJ2_getChars_ba4f3 3 = .ok (.iload_n 0, 1) := by decide +kernel
theorem dJ2_getChars_ba4f3_4 : decode cJ2_getChars_ba4f3 4 = .ok (.ifCond .ge 7, 3) := by decide +kernel
theorem dJ2_getChars_ba4f3_7 : decode cJ2_getChars_ba4f3 7 = .ok (.iconst 1, 1) := by decide +kernel
theorem dJ2_getChars_ba4f3_8 : decode cJ2_getChars_ba4f3 8 = .ok (.goto 4, 3) := by decide +kernel
theorem dJ2_getChars_ba4f3_11 : decode cJ2_getChars_ba4f3 11 = .ok (.iconst 0, 1) := by decide +kernel
theorem dJ2_getChars_ba4f3_12 : decode cJ2_getChars_ba4f3 12 = .ok (.istore 6, 2) := by decide +kernel
theorem dJ2_getChars_ba4f3_14 : decode cJ2_getChars_ba4f3 14 = .ok (.iload 6, 2) := by decide +kernel
theorem dJ2_getChars_ba4f3_16 : decode cJ2_getChars_ba4f3 16 = .ok (.ifCond .ne 6, 3) := by decide +kernel
theorem dJ2_getChars_ba4f3_19 : decode cJ2_getChars_ba4f3 19 = .ok (.iload_n 0, 1) := by decide +kernel
theorem dJ2_getChars_ba4f3_20 : decode cJ2_getChars_ba4f3 20 = .ok (.ineg, 1) := by decide +kernel
theorem dJ2_getChars_ba4f3_21 : decode cJ2_getChars_ba4f3 21 = .ok (.istore_n 0, 1) := by decide +kernel
theorem dJ2_getChars_ba4f3_22 : decode cJ2_getChars_ba4f3 22 = .ok (.iload_n 0, 1) := by decide +kernel
theorem dJ2_getChars_ba4f3_23 : decode cJ2_getChars_ba4f3 23 = .ok (.bipush (-100), 2) := by decide +kernel
theorem dJ2_getChars_ba4f3_25 : decode cJ2_getChars_ba4f3 25 = .ok (.if_icmp .gt 51, 3) := by decide +kernel
theorem dJ2_getChars_ba4f3_28 : decode cJ2_getChars_ba4f3 28 = .ok (.iload_n 0, 1) := by decide +kernel
theorem dJ2_getChars_ba4f3_29 : decode cJ2_getChars_ba4f3 29 = .ok (.bipush 100, 2) := by decide +kernel
theorem dJ2_getChars_ba4f3_31 : decode cJ2_getChars_ba4f3 31 = .ok (.idiv, 1) := by decide +kernel
theorem dJ2_getChars_ba4f3_32 : decode cJ2_getChars_ba4f3 32 = .ok (.istore_n 3, 1) := by decide +kernel
theorem dJ2_getChars_ba4f3_33 : decode cJ2_getChars_ba4f3 33 = .ok (.iload_n 3, 1) := by decide +kernel
theorem dJ2_getChars_ba4f3_34 : decode cJ2_getChars_ba4f3 34 = .ok (.bipush 100, 2) := by decide +kernel
theorem dJ2_getChars_ba4f3_36 : decode cJ2_getChars_ba4f3 36 = .ok (.imul, 1) := by decide +kernel
theorem dJ2_getChars_ba4f3_37 : decode cJ2_getChars_ba4f3 37 = .ok (.iload_n 0, 1) := by decide +kernel
theorem dJ2_getChars_ba4f3_38 : decode cJ2_getChars_ba4f3 38 = .ok (.isub, 1) := by decide +kernel
theorem dJ2_getChars_ba4f3_39 : decode cJ2_getChars_ba4f3 39 = .ok (.istore 4, 2) := by decide +kernel
theorem dJ2_getChars_ba4f3_41 : decode cJ2_getChars_ba4f3 41 = .ok (.iload_n 3, 1) := by decide +kernel
theorem dJ2_getChars_ba4f3_42 : decode cJ2_getChars_ba4f3 42 = .ok (.istore_n 0, 1) := by decide +kernel
theorem dJ2_getChars_ba4f3_43 : decode cJ2_getChars_ba4f3 43 = .ok (.aload_n 2, 1) := by decide +kernel
theorem dJ2_getChars_ba4f3_44 : decode cJ2_getChars_ba4f3 44 = .ok (.iinc 5 (-1), 3) := by decide +kernel
theorem dJ2_getChars_ba4f3_47 : decode cJ2_getChars_ba4f3 47 = .ok (.iload 5, 2) := by decide +kernel
theorem dJ2_getChars_ba4f3_49 : decode cJ2_getChars_ba4f3 49 = .ok (.getstatic 403, 3) := by decide +kernel
theorem dJ2_getChars_ba4f3_52 : decode cJ2_getChars_ba4f3 52 = .ok (.iload 4, 2) := by decide +kernel
theorem dJ2_getChars_ba4f3_54 : decode cJ2_getChars_ba4f3 54 = .ok (.baload, 1) := by decide +kernel
theorem dJ2_getChars_ba4f3_55 : decode cJ2_getChars_ba4f3 55 = .ok (.invokestatic 111, 3) := by decide +kernel
theorem dJ2_getChars_ba4f3_58 : decode cJ2_getChars_ba4f3 58 = .ok (.aload_n 2, 1) := by decide +kernel
theorem dJ2_getChars_ba4f3_59 : decode cJ2_getChars_ba4f3 59 = .ok (.iinc 5 (-1), 3) := by decide +kernel
theorem dJ2_getChars_ba4f3_62 : decode cJ2_getChars_ba4f3 62 = .ok (.iload 5, 2) := by decide +kernel
theorem dJ2_getChars_ba4f3_64 : decode cJ2_getChars_ba4f3 64 = .ok (.getstatic 407, 3) := by decide +kernel
theorem dJ2_getChars_ba4f3_67 : decode cJ2_getChars_ba4f3 67 = .ok (.iload 4, 2) := by decide +kernel
theorem dJ2_getChars_ba4f3_69 : decode cJ2_getChars_ba4f3 69 = .ok (.baload, 1) := by decide +kernel
theorem dJ2_getChars_ba4f3_70 : decode cJ2_getChars_ba4f3 70 = .ok (.invokestatic 111, 3) := by decide +kernel
theorem dJ2_getChars_ba4f3_73 : decode cJ2_getChars_ba4f3 73 = .ok (.goto (-51), 3) := by decide +kernel
theorem dJ2_getChars_ba4f3_76 : decode cJ2_getChars_ba4f3 76 = .ok (.aload_n 2, 1) := by decide +kernel
theorem dJ2_getChars_ba4f3_77 : decode cJ2_getChars_ba4f3 77 = .ok (.iinc 5 (-1), 3) := by decide +kernel
theorem dJ2_getChars_ba4f3_80 : decode cJ2_getChars_ba4f3 80 = .ok (.iload 5, 2) := by decide +kernel
theorem dJ2_getChars_ba4f3_82 : decode cJ2_getChars_ba4f3 82 = .ok (.getstatic 403, 3) := by decide +kernel
theorem dJ2_getChars_ba4f3_85 : decode cJ2_getChars_ba4f3 85 = .ok (.iload_n 0, 1) := by decide +kernel
theorem dJ2_getChars_ba4f3_86 : decode cJ2_getChars_ba4f3 86 = .ok (.ineg, 1) := by decide +kernel
theorem dJ2_getChars_ba4f3_87 : decode cJ2_getChars_ba4f3 87 = .ok (.baload, 1) := by decide +kernel
theorem dJ2_getChars_ba4f3_88 : decode cJ2_getChars_ba4f3 88 = .ok (.invokestatic 111, 3) := by decide +kernel
theorem dJ2_getChars_ba4f3_91 : decode cJ2_getChars_ba4f3 91 = .ok (.iload_n 0, 1) := by decide +kernel
theorem dJ2_getChars_ba4f3_92 : decode cJ2_getChars_ba4f3 92 = .ok (.bipush (-9), 2) := by decide +kernel
theorem dJ2_getChars_ba4f3_94 : decode cJ2_getChars_ba4f3 94 = .ok (.if_icmp .ge 18, 3) := by decide +kernel
theorem dJ2_getChars_ba4f3_97 : decode cJ2_getChars_ba4f3 97 = .ok (.aload_n 2, 1) := by decide +kernel
theorem dJ2_getChars_ba4f3_98 : decode cJ2_getChars_ba4f3 98 = .ok (.iinc 5 (-1), 3) := by decide +kernel
theorem dJ2_getChars_ba4f3_101 : decode cJ2_getChars_ba4f3 101 = .ok (.iload 5, 2) := by decide +kernel
theorem dJ2_getChars_ba4f3_103 : decode cJ2_getChars_ba4f3 103 = .ok (.getstatic 407, 3) := by decide +kernel
theorem dJ2_getChars_ba4f3_106 : decode cJ2_getChars_ba4f3 106 = .ok (.iload_n 0, 1) := by decide +kernel
theorem dJ2_getChars_ba4f3_107 : decode cJ2_getChars_ba4f3 107 = .ok (.ineg, 1) := by decide +kernel
theorem dJ2_getChars_ba4f3_108 : decode cJ2_getChars_ba4f3 108 = .ok (.baload, 1) := by decide +kernel
theorem dJ2_getChars_ba4f3_109 : decode cJ2_getChars_ba4f3 109 = .ok (.invokestatic 111, 3) := by decide +kernel
theorem dJ2_getChars_ba4f3_112 : decode cJ2_getChars_ba4f3 112 = .ok (.iload 6, 2) := by decide +kernel
theorem dJ2_getChars_ba4f3_114 : decode cJ2_getChars_ba4f3 114 = .ok (.ifCond .eq 14, 3) := by decide +kernel
theorem dJ2_getChars_ba4f3_117 : decode cJ2_getChars_ba4f3 117 = .ok (.aload_n 2, 1) := by decide +kernel
theorem dJ2_getChars_ba4f3_118 : decode cJ2_getChars_ba4f3 118 = .ok (.iinc 5 (-1), 3) := by decide +kernel
theorem dJ2_getChars_ba4f3_121 : decode cJ2_getChars_ba4f3 121 = .ok (.iload 5, 2) := by decide +kernel
theorem dJ2_getChars_ba4f3_123 : decode cJ2_getChars_ba4f3 123 = .ok (.bipush 45, 2) := by decide +kernel
theorem dJ2_getChars_ba4f3_125 : decode cJ2_getChars_ba4f3 125 = .ok (.invokestatic 111, 3) := by decide +kernel
theorem dJ2_getChars_ba4f3_128 : decode cJ2_getChars_ba4f3 128 = .ok (.iload 5, 2) := by decide +kernel
theorem dJ2_getChars_ba4f3_130 : decode cJ2_getChars_ba4f3 130 = .ok (.ireturn, 1) := by decide +kernel
theorem dJ2_checkIndex_2214a_0 : decode cJ2_checkIndex_2214a 0 = .ok (.iload_n 0, 1) := by decide +kernel
theorem dJ2_checkIndex_2214a_1 : decode cJ2_checkIndex_2214a 1 = .ok (.aload_n 1, 1) := by decide +kernel
theorem dJ2_checkIndex_2214a_2 : decode cJ2_checkIndex_2214a 2 = .ok (.invokestatic 48, 3) := by decide +kernel
theorem dJ2_checkIndex_2214a_5 : decode cJ2_checkIndex_2214a 5 = .ok (.invokestatic 414, 3) := by decide +kernel
theorem dJ2_checkIndex_2214a_8 : decode cJ2_checkIndex_2214a 8 = .ok (.return_, 1) := by decide +kernel
theorem dJ2_checkBoundsBeginEnd_d044e_0 : decode cJ2_checkBoundsBeginEnd_d044e 0 = .ok (.iload_n 0, 1) := by decide +kernel
theorem dJ2_checkBoundsBeginEnd_d044e_1 : decode cJ2_checkBoundsBeginEnd_d044e 1 = .ok (.iload_n 1, 1) := by decide +kernel
theorem dJ2_checkBoundsBeginEnd_d044e_2 : decode cJ2_checkBoundsBeginEnd_d044e 2 = .ok (.aload_n 2, 1) := by decide +kernel
theorem dJ2_checkBoundsBeginEnd_d044e_3 : decode cJ2_checkBoundsBeginEnd_d044e 3 = .ok (.invokestatic 48, 3) := by decide +kernel
theorem dJ2_checkBoundsBeginEnd_d044e_6 : decode cJ2_checkBoundsBeginEnd_d044e 6 = .ok (.invokestatic 241, 3) := by decide +kernel
theorem dJ2_checkBoundsBeginEnd_d044e_9 : decode cJ2_checkBoundsBeginEnd_d044e 9 = .ok (.return_, 1) := by decide +kernel
theorem dJ2_checkBoundsOffCount_d044e_0 : decode cJ2_checkBoundsOffCount_d044e 0 = .ok (.iload_n 0, 1) := by decide +kernel
theorem dJ2_checkBoundsOffCount_d044e_1 : decode cJ2_checkBoundsOffCount_d044e 1 = .ok (.iload_n 1, 1) := by decide +kernel
theorem dJ2_checkBoundsOffCount_d044e_2 : decode cJ2_checkBoundsOffCount_d044e 2 = .ok (.aload_n 2, 1) := by decide +kernel
theorem dJ2_checkBoundsOffCount_d044e_3 : decode cJ2_checkBoundsOffCount_d044e 3 = .ok (.invokestatic 48, 3) := by decide +kernel
theorem dJ2_checkBoundsOffCount_d044e_6 : decode cJ2_checkBoundsOffCount_d044e 6 = .ok (.invokestatic 419, 3) := by decide +kernel
theorem dJ2_checkBoundsOffCount_d044e_9 : decode cJ2_checkBoundsOffCount_d044e 9 = .ok (.pop, 1) := by decide +kernel
theorem dJ2_checkBoundsOffCount_d044e_10 : decode cJ2_checkBoundsOffCount_d044e 10 = .ok (.return_, 1) := by decide +kernel
theorem dJ7_copyOf_9075b_0 : decode cJ7_copyOf_9075b 0 = .ok (.iload_n 1, 1) := by decide +kernel
theorem dJ7_copyOf_9075b_1 : decode cJ7_copyOf_9075b 1 = .ok (.aload_n 0, 1) := by decide +kernel
theorem dJ7_copyOf_9075b_2 : decode cJ7_copyOf_9075b 2 = .ok (.arraylength, 1) := by decide +kernel
theorem dJ7_copyOf_9075b_3 : decode cJ7_copyOf_9075b 3 = .ok (.if_icmp .ne 11, 3) := by decide +kernel
theorem dJ7_copyOf_9075b_6 : decode cJ7_copyOf_9075b 6 = .ok (.aload_n 0, 1) := by decide +kernel
theorem dJ7_copyOf_9075b_7 : decode cJ7_copyOf_9075b 7 = .ok (.invokevirtual 310, 3) := by decide +kernel
theorem dJ7_copyOf_9075b_10 : decode cJ7_copyOf_9075b 10 = .ok (.checkcast 311, 3) := by decide +kernel
theorem dJ7_copyOf_9075b_13 : decode cJ7_copyOf_9075b 13 = .ok (.areturn, 1) := by decide +kernel
theorem dJ7_copyOf_9075b_14 : decode cJ7_copyOf_9075b 14 = .ok (.iload_n 1, 1) := by decide +kernel
theorem dJ7_copyOf_9075b_15 : decode cJ7_copyOf_9075b 15 = .ok (.newarray .byte, 2) := by decide +kernel
theorem dJ7_copyOf_9075b_17 : decode cJ7_copyOf_9075b 17 = .ok (.astore_n 2, 1) := by decide +kernel
theorem dJ7_copyOf_9075b_18 : decode cJ7_copyOf_9075b 18 = .ok (.aload_n 0, 1) := by decide +kernel
theorem dJ7_copyOf_9075b_19 : decode cJ7_copyOf_9075b 19 = .ok (.iconst 0, 1) := by decide +kernel
theorem dJ7_copyOf_9075b_20 : decode cJ7_copyOf_9075b 20 = .ok (.aload_n 2, 1) := by decide +kernel
theorem dJ7_copyOf_9075b_21 : decode cJ7_copyOf_9075b 21 = .ok (.iconst 0, 1) := by decide +kernel
theorem dJ7_copyOf_9075b_22 : decode cJ7_copyOf_9075b 22 = .ok (.aload_n 0, 1) := by decide +kernel
theorem dJ7_copyOf_9075b_23 : decode cJ7_copyOf_9075b 23 = .ok (.arraylength, 1) := by decide +kernel
theorem dJ7_copyOf_9075b_24 : decode cJ7_copyOf_9075b 24 = .ok (.iload_n 1, 1) := by decide +kernel
theorem dJ7_copyOf_9075b_25 : decode cJ7_copyOf_9075b 25 = .ok (.invokestatic 304, 3) := by decide +kernel
theorem dJ7_copyOf_9075b_28 : decode cJ7_copyOf_9075b 28 = .ok (.invokestatic 150, 3) := by decide +kernel
theorem dJ7_copyOf_9075b_31 : decode cJ7_copyOf_9075b 31 = .ok (.aload_n 2, 1) := by decide +kernel
theorem dJ7_copyOf_9075b_32 : decode cJ7_copyOf_9075b 32 = .ok (.areturn, 1) := by decide +kernel
theorem dJ8_newLength_cabcc_0 : decode cJ8_newLength_cabcc 0 = .ok (.iload_n 0, 1) := by decide +kernel
theorem dJ8_newLength_cabcc_1 : decode cJ8_newLength_cabcc 1 = .ok (.iload_n 1, 1) := by decide +kernel
theorem dJ8_newLength_cabcc_2 : decode cJ8_newLength_cabcc 2 = .ok (.iload_n 2, 1) := by decide +kernel
theorem dJ8_newLength_cabcc_3 : decode cJ8_newLength_cabcc 3 = .ok (.invokestatic 194, 3) := by decide +kernel
theorem dJ8_newLength_cabcc_6 : decode cJ8_newLength_cabcc 6 = .ok (.iadd, 1) := by decide +kernel
theorem dJ8_newLength_cabcc_7 : decode cJ8_newLength_cabcc 7 = .ok (.istore_n 3, 1) := by decide +kernel
theorem dJ8_newLength_cabcc_8 : decode cJ8_newLength_cabcc 8 = .ok (.iconst 0, 1) := by decide +kernel
theorem dJ8_newLength_cabcc_9 : decode cJ8_newLength_cabcc 9 = .ok (.iload_n 3, 1) := by decide +kernel
theorem dJ8_newLength_cabcc_10 : decode cJ8_newLength_cabcc 10 = .ok (.if_icmp .ge 11, 3) := by decide +kernel
theorem dJ8_newLength_cabcc_13 : decode cJ8_newLength_cabcc 13 = .ok (.iload_n 3, 1) := by decide +kernel
theorem dJ8_newLength_cabcc_14 : decode cJ8_newLength_cabcc 14 = .ok (.ldc 200, 2) := by decide +kernel
theorem dJ8_newLength_cabcc_16 : decode cJ8_newLength_cabcc 16 = .ok (.if_icmp .gt 5, 3) := by decide +kernel
theorem dJ8_newLength_cabcc_19 : decode cJ8_newLength_cabcc 19 = .ok (.iload_n 3, 1) := by decide +kernel
theorem dJ8_newLength_cabcc_20 : decode cJ8_newLength_cabcc 20 = .ok (.ireturn, 1) := by decide +kernel
theorem dJ8_newLength_cabcc_21 : decode cJ8_newLength_cabcc 21 = .ok (.iload_n 0, 1) := by decide +kernel
theorem dJ8_newLength_cabcc_22 : decode cJ8_newLength_cabcc 22 = .ok (.iload_n 1, 1) := by decide +kernel
theorem dJ8_newLength_cabcc_23 : decode cJ8_newLength_cabcc 23 = .ok (.invokestatic 201, 3) := by decide +kernel
theorem dJ8_newLength_cabcc_26 : decode cJ8_newLength_cabcc 26 = .ok (.ireturn, 1) := by decide +kernel
theorem dJ8_hugeLength_7cf53_0 : decode cJ8_hugeLength_7cf53 0 = .ok (.iload_n 0, 1) := by decide +kernel
theorem dJ8_hugeLength_7cf53_1 : decode cJ8_hugeLength_7cf53 1 = .ok (.iload_n 1, 1) := by decide +kernel
theorem dJ8_hugeLength_7cf53_2 : decode cJ8_hugeLength_7cf53 2 = .ok (.iadd, 1) := by decide +kernel
theorem dJ8_hugeLength_7cf53_3 : decode cJ8_hugeLength_7cf53 3 = .ok (.istore_n 2, 1) := by decide +kernel
theorem dJ8_hugeLength_7cf53_4 : decode cJ8_hugeLength_7cf53 4 = .ok (.iload_n 2, 1) := by decide +kernel
theorem dJ8_hugeLength_7cf53_5 : decode cJ8_hugeLength_7cf53 5 = .ok (.ifCond .ge 44, 3) := by decide +kernel
theorem dJ8_hugeLength_7cf53_8 : decode cJ8_hugeLength_7cf53 8 = .ok (.new 204, 3) := by decide +kernel
theorem dJ8_hugeLength_7cf53_11 : decode cJ8_hugeLength_7cf53 11 = .ok (.dup, 1) := by decide +kernel
theorem dJ8_hugeLength_7cf53_12 : decode cJ8_hugeLength_7cf53 12 = .ok (.new 89, 3) := by decide +kernel
theorem dJ8_hugeLength_7cf53_15 : decode cJ8_hugeLength_7cf53 15 = .ok (.dup, 1) := by decide +kernel
theorem dJ8_hugeLength_7cf53_16 : decode cJ8_hugeLength_7cf53 16 = .ok (.invokespecial 91, 3) := by decide +kernel
theorem dJ8_hugeLength_7cf53_19 : decode cJ8_hugeLength_7cf53 19 = .ok (.ldc 206, 2) := by decide +kernel
theorem dJ8_hugeLength_7cf53_21 : decode cJ8_hugeLength_7cf53 21 = .ok (.invokevirtual 94, 3) := by decide +kernel
theorem dJ8_hugeLength_7cf53_24 : decode cJ8_hugeLength_7cf53 24 = .ok (.iload_n 0, 1) := by decide +kernel
theorem dJ8_hugeLength_7cf53_25 : decode cJ8_hugeLength_7cf53 25 = .ok (.invokevirtual 98, 3) := by decide +kernel
theorem dJ8_hugeLength_7cf53_28 : decode cJ8_hugeLength_7cf53 28 = .ok (.ldc 208, 2) := by decide +kernel
theorem dJ8_hugeLength_7cf53_30 : decode cJ8_hugeLength_7cf53 30 = .ok (.invokevirtual 94, 3) := by decide +kernel
theorem dJ8_hugeLength_7cf53_33 : decode cJ8_hugeLength_7cf53 33 = .ok (.iload_n 1, 1) := by decide +kernel
theorem dJ8_hugeLength_7cf53_34 : decode cJ8_hugeLength_7cf53 34 = .ok (.invokevirtual 98, 3) := by decide +kernel
theorem dJ8_hugeLength_7cf53_37 : decode cJ8_hugeLength_7cf53 37 = .ok (.ldc 210, 2) := by decide +kernel
theorem dJ8_hugeLength_7cf53_39 : decode cJ8_hugeLength_7cf53 39 = .ok (.invokevirtual 94, 3) := by decide +kernel
theorem dJ8_hugeLength_7cf53_42 : decode cJ8_hugeLength_7cf53 42 = .ok (.invokevirtual 101, 3) := by decide +kernel
theorem dJ8_hugeLength_7cf53_45 : decode cJ8_hugeLength_7cf53 45 = .ok (.invokespecial 212, 3) := by decide +kernel
theorem dJ8_hugeLength_7cf53_48 : decode cJ8_hugeLength_7cf53 48 = .ok (.athrow, 1) := by decide +kernel
theorem dJ8_hugeLength_7cf53_49 : decode cJ8_hugeLength_7cf53 49 = .ok (.iload_n 2, 1) := by decide +kernel
theorem dJ8_hugeLength_7cf53_50 : decode cJ8_hugeLength_7cf53 50 = .ok (.ldc 200, 2) := by decide +kernel
theorem dJ8_hugeLength_7cf53_52 : decode cJ8_hugeLength_7cf53 52 = .ok (.if_icmp .gt 6, 3) := by decide +kernel
theorem dJ8_hugeLength_7cf53_55 : decode cJ8_hugeLength_7cf53 55 = .ok (.ldc 200, 2) := by decide +kernel
theorem dJ8_hugeLength_7cf53_57 : decode cJ8_hugeLength_7cf53 57 = .ok (.ireturn, 1) := by decide +kernel
theorem dJ8_hugeLength_7cf53_58 : decode cJ8_hugeLength_7cf53 58 = .ok (.iload_n 2, 1) := by decide +kernel
theorem dJ8_hugeLength_7cf53_59 : decode cJ8_hugeLength_7cf53 59 = .ok (.ireturn, 1) := by decide +kernel
theorem dJ3_checkIndex_8e157_0 : decode cJ3_checkIndex_8e157 0 = .ok (.iload_n 0, 1) := by decide +kernel
theorem dJ3_checkIndex_8e157_1 : decode cJ3_checkIndex_8e157 1 = .ok (.ifCond .lt 8, 3) := by decide +kernel
theorem dJ3_checkIndex_8e157_4 : decode cJ3_checkIndex_8e157 4 = .ok (.iload_n 0, 1) := by decide +kernel
theorem dJ3_checkIndex_8e157_5 : decode cJ3_checkIndex_8e157 5 = .ok (.iload_n 1, 1) := by decide +kernel
theorem dJ3_checkIndex_8e157_6 : decode cJ3_checkIndex_8e157 6 = .ok (.if_icmp .lt 10, 3) := by decide +kernel
theorem dJ3_checkIndex_8e157_9 : decode cJ3_checkIndex_8e157 9 = .ok (.aload_n 2, 1) := by decide +kernel
theorem dJ3_checkIndex_8e157_10 : decode cJ3_checkIndex_8e157 10 = .ok (.iload_n 0, 1) := by decide +kernel
theorem dJ3_checkIndex_8e157_11 : decode cJ3_checkIndex_8e157 11 = .ok (.iload_n 1, 1) := by decide +kernel
theorem dJ3_checkIndex_8e157_12 : decode cJ3_checkIndex_8e157 12 = .ok (.invokestatic 95, 3) := by decide +kernel
theorem dJ3_checkIndex_8e157_15 : decode cJ3_checkIndex_8e157 15 = .ok (.athrow, 1) := by decide +kernel
theorem dJ3_checkIndex_8e157_16 : decode cJ3_checkIndex_8e157 16 = .ok (.iload_n 0, 1) := by decide +kernel
theorem dJ3_checkIndex_8e157_17 : decode cJ3_checkIndex_8e157 17 = .ok (.ireturn, 1) := by decide +kernel
theorem dJ3_checkFromToIndex_8c36e_0 : decode cJ3_checkFromToIndex_8c36e 0 = .ok (.iload_n 0, 1) := by decide +kernel
theorem dJ3_checkFromToIndex_8c36e_1 : decode cJ3_checkFromToIndex_8c36e 1 = .ok (.ifCond .lt 13, 3) := by decide +kernel
theorem dJ3_checkFromToIndex_8c36e_4 : decode cJ3_checkFromToIndex_8c36e 4 = .ok (.iload_n 0, 1) := by decide +kernel
theorem dJ3_checkFromToIndex_8c36e_5 : decode cJ3_checkFromToIndex_8c36e 5 = .ok (.iload_n 1, 1) := by decide +kernel
theorem dJ3_checkFromToIndex_8c36e_6 : decode cJ3_checkFromToIndex_8c36e 6 = .ok (.if_icmp .gt 8, 3) := by decide +kernel
theorem dJ3_checkFromToIndex_8c36e_9 : decode cJ3_checkFromToIndex_8c36e 9 = .ok (.iload_n 1, 1) := by decide +kernel
theorem dJ3_checkFromToIndex_8c36e_10 : decode cJ3_checkFromToIndex_8c36e 10 = .ok (.iload_n 2, 1) := by decide +kernel
theorem dJ3_checkFromToIndex_8c36e_11 : decode cJ3_checkFromToIndex_8c36e 11 = .ok (.if_icmp .le 11, 3) := by decide +kernel
theorem dJ3_checkFromToIndex_8c36e_14 : decode cJ3_checkFromToIndex_8c36e 14 = .ok (.aload_n 3, 1) := by decide +kernel
theorem dJ3_checkFromToIndex_8c36e_15 : decode cJ3_checkFromToIndex_8c36e 15 = .ok (.iload_n 0, 1) := by decide +kernel
theorem dJ3_checkFromToIndex_8c36e_16 : decode cJ3_checkFromToIndex_8c36e 16 = .ok (.iload_n 1, 1) := by decide +kernel
theorem dJ3_checkFromToIndex_8c36e_17 : decode cJ3_checkFromToIndex_8c36e 17 = .ok (.iload_n 2, 1) := by decide +kernel
theorem dJ3_checkFromToIndex_8c36e_18 : decode cJ3_checkFromToIndex_8c36e 18 = .ok (.invokestatic 99, 3) := by decide +kernel
theorem dJ3_checkFromToIndex_8c36e_21 : decode cJ3_checkFromToIndex_8c36e 21 = .ok (.athrow, 1) := by decide +kernel
theorem dJ3_checkFromToIndex_8c36e_22 : decode cJ3_checkFromToIndex_8c36e 22 = .ok (.iload_n 0, 1) := by decide +kernel
theorem dJ3_checkFromToIndex_8c36e_23 : decode cJ3_checkFromToIndex_8c36e 23 = .ok (.ireturn, 1) := by decide +kernel
theorem dJ3_checkFromIndexSize_8c36e_0 : decode cJ3_checkFromIndexSize_8c36e 0 = .ok (.iload_n 2, 1) := by decide +kernel
theorem dJ3_checkFromIndexSize_8c36e_1 : decode cJ3_checkFromIndexSize_8c36e 1 = .ok (.iload_n 0, 1) := by decide +kernel
theorem dJ3_checkFromIndexSize_8c36e_2 : decode cJ3_checkFromIndexSize_8c36e 2 = .ok (.ior, 1) := by decide +kernel
theorem dJ3_checkFromIndexSize_8c36e_3 : decode cJ3_checkFromIndexSize_8c36e 3 = .ok (.iload_n 1, 1) := by decide +kernel
theorem dJ3_checkFromIndexSize_8c36e_4 : decode cJ3_checkFromIndexSize_8c36e 4 = .ok (.ior, 1) := by decide +kernel
theorem dJ3_checkFromIndexSize_8c36e_5 : decode cJ3_checkFromIndexSize_8c36e 5 = .ok (.ifCond .lt 10, 3) := by decide +kernel
theorem dJ3_checkFromIndexSize_8c36e_8 : decode cJ3_checkFromIndexSize_8c36e 8 = .ok (.iload_n 1, 1) := by decide +kernel
theorem dJ3_checkFromIndexSize_8c36e_9 : decode cJ3_checkFromIndexSize_8c36e 9 = .ok (.iload_n 2, 1) := by decide +kernel
theorem dJ3_checkFromIndexSize_8c36e_10 : decode cJ3_checkFromIndexSize_8c36e 10 = .ok (.iload_n 0, 1) := by decide +kernel
theorem dJ3_checkFromIndexSize_8c36e_11 : decode cJ3_checkFromIndexSize_8c36e 11 = .ok (.isub, 1) := by decide +kernel
theorem dJ3_checkFromIndexSize_8c36e_12 : decode cJ3_checkFromIndexSize_8c36e 12 = .ok (.if_icmp .le 11, 3) := by decide +kernel
theorem dJ3_checkFromIndexSize_8c36e_15 : decode cJ3_checkFromIndexSize_8c36e 15 = .ok (.aload_n 3, 1) := by decide +kernel
theorem dJ3_checkFromIndexSize_8c36e_16 : decode cJ3_checkFromIndexSize_8c36e 16 = .ok (.iload_n 0, 1) := by decide +kernel
theorem dJ3_checkFromIndexSize_8c36e_17 : decode cJ3_checkFromIndexSize_8c36e 17 = .ok (.iload_n 1, 1) := by decide +kernel
theorem dJ3_checkFromIndexSize_8c36e_18 : decode cJ3_checkFromIndexSize_8c36e 18 = .ok (.iload_n 2, 1) := by decide +kernel
theorem dJ3_checkFromIndexSize_8c36e_19 : decode cJ3_checkFromIndexSize_8c36e 19 = .ok (.invokestatic 103, 3) := by decide +kernel
theorem dJ3_checkFromIndexSize_8c36e_22 : decode cJ3_checkFromIndexSize_8c36e 22 = .ok (.athrow, 1) := by decide +kernel
theorem dJ3_checkFromIndexSize_8c36e_23 : decode cJ3_checkFromIndexSize_8c36e 23 = .ok (.iload_n 0, 1) := by decide +kernel
theorem dJ3_checkFromIndexSize_8c36e_24 : decode cJ3_checkFromIndexSize_8c36e 24 = .ok (.ireturn, 1) := by decide +kernel
theorem dL_setTank_0 : decode cL_setTank 0 = .ok (.aload 5, 2) := by decide +kernel
theorem dL_setTank_2 : decode cL_setTank 2 = .ok (.iconst 0, 1) := by decide +kernel
theorem dL_setTank_3 : decode cL_setTank 3 = .ok (.aload_n 0, 1) := by decide +kernel
theorem dL_setTank_4 : decode cL_setTank 4 = .ok (.iload_n 1, 1) := by decide +kernel
theorem dL_setTank_5 : decode cL_setTank 5 = .ok (.iload_n 2, 1) := by decide +kernel
theorem dL_setTank_6 : decode cL_setTank 6 = .ok (.iload_n 3, 1) := by decide +kernel
theorem dL_setTank_7 : decode cL_setTank 7 = .ok (.iload 4, 2) := by decide +kernel
theorem dL_setTank_9 : decode cL_setTank 9 = .ok (.invokevirtual 7, 3) := by decide +kernel
theorem dL_setTank_12 : decode cL_setTank 12 = .ok (.i2l, 1) := by decide +kernel
theorem dL_setTank_13 : decode cL_setTank 13 = .ok (.lastore, 1) := by decide +kernel
theorem dL_setTank_14 : decode cL_setTank 14 = .ok (.goto 7, 3) := by decide +kernel
theorem dL_setTank_17 : decode cL_setTank 17 = .ok (.astore 6, 2) := by decide +kernel
theorem dL_setTank_19 : decode cL_setTank 19 = .ok (.iconst 1, 1) := by decide +kernel
theorem dL_setTank_20 : decode cL_setTank 20 = .ok (.ireturn, 1) := by decide +kernel
theorem dL_setTank_21 : decode cL_setTank 21 = .ok (.iconst 0, 1) := by decide +kernel
theorem dL_setTank_22 : decode cL_setTank 22 = .ok (.ireturn, 1) := by decide +kernel
theorem dL_setValve_0 : decode cL_setValve 0 = .ok (.aload_n 3, 1) := by decide +kernel
theorem dL_setValve_1 : decode cL_setValve 1 = .ok (.iconst 0, 1) := by decide +kernel
theorem dL_setValve_2 : decode cL_setValve 2 = .ok (.aload_n 0, 1) := by decide +kernel
theorem dL_setValve_3 : decode cL_setValve 3 = .ok (.iload_n 1, 1) := by decide +kernel
theorem dL_setValve_4 : decode cL_setValve 4 = .ok (.iload_n 2, 1) := by decide +kernel
theorem dL_setValve_5 : decode cL_setValve 5 = .ok (.invokevirtual 15, 3) := by decide +kernel
theorem dL_setValve_8 : decode cL_setValve 8 = .ok (.ifCond .eq 7, 3) := by decide +kernel
theorem dL_setValve_11 : decode cL_setValve 11 = .ok (.lconst 1, 1) := by decide +kernel
theorem dL_setValve_12 : decode cL_setValve 12 = .ok (.goto 4, 3) := by decide +kernel
theorem dL_setValve_15 : decode cL_setValve 15 = .ok (.lconst 0, 1) := by decide +kernel
theorem dL_setValve_16 : decode cL_setValve 16 = .ok (.lastore, 1) := by decide +kernel
theorem dL_setValve_17 : decode cL_setValve 17 = .ok (.goto 7, 3) := by decide +kernel
theorem dL_setValve_20 : decode cL_setValve 20 = .ok (.astore 4, 2) := by decide +kernel
theorem dL_setValve_22 : decode cL_setValve 22 = .ok (.iconst 1, 1) := by decide +kernel
theorem dL_setValve_23 : decode cL_setValve 23 = .ok (.ireturn, 1) := by decide +kernel
theorem dL_setValve_24 : decode cL_setValve 24 = .ok (.iconst 0, 1) := by decide +kernel
theorem dL_setValve_25 : decode cL_setValve 25 = .ok (.ireturn, 1) := by decide +kernel
theorem dL_drain_0 : decode cL_drain 0 = .ok (.aload_n 3, 1) := by decide +kernel
theorem dL_drain_1 : decode cL_drain 1 = .ok (.iconst 0, 1) := by decide +kernel
theorem dL_drain_2 : decode cL_drain 2 = .ok (.aload_n 0, 1) := by decide +kernel
theorem dL_drain_3 : decode cL_drain 3 = .ok (.iload_n 1, 1) := by decide +kernel
theorem dL_drain_4 : decode cL_drain 4 = .ok (.iload_n 2, 1) := by decide +kernel
theorem dL_drain_5 : decode cL_drain 5 = .ok (.invokevirtual 19, 3) := by decide +kernel
theorem dL_drain_8 : decode cL_drain 8 = .ok (.i2l, 1) := by decide +kernel
theorem dL_drain_9 : decode cL_drain 9 = .ok (.lastore, 1) := by decide +kernel
theorem dL_drain_10 : decode cL_drain 10 = .ok (.goto 7, 3) := by decide +kernel
theorem dL_drain_13 : decode cL_drain 13 = .ok (.astore 4, 2) := by decide +kernel
theorem dL_drain_15 : decode cL_drain 15 = .ok (.iconst 1, 1) := by decide +kernel
theorem dL_drain_16 : decode cL_drain 16 = .ok (.ireturn, 1) := by decide +kernel
theorem dL_drain_17 : decode cL_drain 17 = .ok (.iconst 0, 1) := by decide +kernel
theorem dL_drain_18 : decode cL_drain 18 = .ok (.ireturn, 1) := by decide +kernel
theorem dL_inTank_0 : decode cL_inTank 0 = .ok (.aload_n 2, 1) := by decide +kernel
theorem dL_inTank_1 : decode cL_inTank 1 = .ok (.iconst 0, 1) := by decide +kernel
theorem dL_inTank_2 : decode cL_inTank 2 = .ok (.aload_n 0, 1) := by decide +kernel
theorem dL_inTank_3 : decode cL_inTank 3 = .ok (.iload_n 1, 1) := by decide +kernel
theorem dL_inTank_4 : decode cL_inTank 4 = .ok (.invokevirtual 23, 3) := by decide +kernel
theorem dL_inTank_7 : decode cL_inTank 7 = .ok (.i2l, 1) := by decide +kernel
theorem dL_inTank_8 : decode cL_inTank 8 = .ok (.lastore, 1) := by decide +kernel
theorem dL_inTank_9 : decode cL_inTank 9 = .ok (.goto 6, 3) := by decide +kernel
theorem dL_inTank_12 : decode cL_inTank 12 = .ok (.astore_n 3, 1) := by decide +kernel
theorem dL_inTank_13 : decode cL_inTank 13 = .ok (.iconst 1, 1) := by decide +kernel
theorem dL_inTank_14 : decode cL_inTank 14 = .ok (.ireturn, 1) := by decide +kernel
theorem dL_inTank_15 : decode cL_inTank 15 = .ok (.iconst 0, 1) := by decide +kernel
theorem dL_inTank_16 : decode cL_inTank 16 = .ok (.ireturn, 1) := by decide +kernel
theorem dL_addStep_0 : decode cL_addStep 0 = .ok (.aload_n 3, 1) := by decide +kernel
theorem dL_addStep_1 : decode cL_addStep 1 = .ok (.iconst 0, 1) := by decide +kernel
theorem dL_addStep_2 : decode cL_addStep 2 = .ok (.aload_n 0, 1) := by decide +kernel
theorem dL_addStep_3 : decode cL_addStep 3 = .ok (.iload_n 1, 1) := by decide +kernel
theorem dL_addStep_4 : decode cL_addStep 4 = .ok (.iload_n 2, 1) := by decide +kernel
theorem dL_addStep_5 : decode cL_addStep 5 = .ok (.invokevirtual 27, 3) := by decide +kernel
theorem dL_addStep_8 : decode cL_addStep 8 = .ok (.i2l, 1) := by decide +kernel
theorem dL_addStep_9 : decode cL_addStep 9 = .ok (.lastore, 1) := by decide +kernel
theorem dL_addStep_10 : decode cL_addStep 10 = .ok (.goto 11, 3) := by decide +kernel
theorem dL_addStep_13 : decode cL_addStep 13 = .ok (.astore 4, 2) := by decide +kernel
theorem dL_addStep_15 : decode cL_addStep 15 = .ok (.iconst 1, 1) := by decide +kernel
theorem dL_addStep_16 : decode cL_addStep 16 = .ok (.ireturn, 1) := by decide +kernel
theorem dL_addStep_17 : decode cL_addStep 17 = .ok (.astore 4, 2) := by decide +kernel
theorem dL_addStep_19 : decode cL_addStep 19 = .ok (.iconst 2, 1) := by decide +kernel
theorem dL_addStep_20 : decode cL_addStep 20 = .ok (.ireturn, 1) := by decide +kernel
theorem dL_addStep_21 : decode cL_addStep 21 = .ok (.iconst 0, 1) := by decide +kernel
theorem dL_addStep_22 : decode cL_addStep 22 = .ok (.ireturn, 1) := by decide +kernel
theorem dL_setAfter_0 : decode cL_setAfter 0 = .ok (.aload_n 3, 1) := by decide +kernel
theorem dL_setAfter_1 : decode cL_setAfter 1 = .ok (.iconst 0, 1) := by decide +kernel
theorem dL_setAfter_2 : decode cL_setAfter 2 = .ok (.aload_n 0, 1) := by decide +kernel
theorem dL_setAfter_3 : decode cL_setAfter 3 = .ok (.iload_n 1, 1) := by decide +kernel
theorem dL_setAfter_4 : decode cL_setAfter 4 = .ok (.iload_n 2, 1) := by decide +kernel
theorem dL_setAfter_5 : decode cL_setAfter 5 = .ok (.invokevirtual 32, 3) := by decide +kernel
theorem dL_setAfter_8 : decode cL_setAfter 8 = .ok (.i2l, 1) := by decide +kernel
theorem dL_setAfter_9 : decode cL_setAfter 9 = .ok (.lastore, 1) := by decide +kernel
theorem dL_setAfter_10 : decode cL_setAfter 10 = .ok (.goto 15, 3) := by decide +kernel
theorem dL_setAfter_13 : decode cL_setAfter 13 = .ok (.astore 4, 2) := by decide +kernel
theorem dL_setAfter_15 : decode cL_setAfter 15 = .ok (.iconst 1, 1) := by decide +kernel
theorem dL_setAfter_16 : decode cL_setAfter 16 = .ok (.ireturn, 1) := by decide +kernel
theorem dL_setAfter_17 : decode cL_setAfter 17 = .ok (.astore 4, 2) := by decide +kernel
theorem dL_setAfter_19 : decode cL_setAfter 19 = .ok (.iconst 2, 1) := by decide +kernel
theorem dL_setAfter_20 : decode cL_setAfter 20 = .ok (.ireturn, 1) := by decide +kernel
theorem dL_setAfter_21 : decode cL_setAfter 21 = .ok (.astore 4, 2) := by decide +kernel
theorem dL_setAfter_23 : decode cL_setAfter 23 = .ok (.iconst 3, 1) := by decide +kernel
theorem dL_setAfter_24 : decode cL_setAfter 24 = .ok (.ireturn, 1) := by decide +kernel
theorem dL_setAfter_25 : decode cL_setAfter 25 = .ok (.iconst 0, 1) := by decide +kernel
theorem dL_setAfter_26 : decode cL_setAfter 26 = .ok (.ireturn, 1) := by decide +kernel
theorem dL_stepState_0 : decode cL_stepState 0 = .ok (.aload_n 2, 1) := by decide +kernel
theorem dL_stepState_1 : decode cL_stepState 1 = .ok (.iconst 0, 1) := by decide +kernel
theorem dL_stepState_2 : decode cL_stepState 2 = .ok (.aload_n 0, 1) := by decide +kernel
theorem dL_stepState_3 : decode cL_stepState 3 = .ok (.iload_n 1, 1) := by decide +kernel
theorem dL_stepState_4 : decode cL_stepState 4 = .ok (.invokevirtual 37, 3) := by decide +kernel
theorem dL_stepState_7 : decode cL_stepState 7 = .ok (.i2l, 1) := by decide +kernel
theorem dL_stepState_8 : decode cL_stepState 8 = .ok (.lastore, 1) := by decide +kernel
theorem dL_stepState_9 : decode cL_stepState 9 = .ok (.goto 6, 3) := by decide +kernel
theorem dL_stepState_12 : decode cL_stepState 12 = .ok (.astore_n 3, 1) := by decide +kernel
theorem dL_stepState_13 : decode cL_stepState 13 = .ok (.iconst 1, 1) := by decide +kernel
theorem dL_stepState_14 : decode cL_stepState 14 = .ok (.ireturn, 1) := by decide +kernel
theorem dL_stepState_15 : decode cL_stepState 15 = .ok (.iconst 0, 1) := by decide +kernel
theorem dL_stepState_16 : decode cL_stepState 16 = .ok (.ireturn, 1) := by decide +kernel
theorem dL_addMark_0 : decode cL_addMark 0 = .ok (.aload 4, 2) := by decide +kernel
theorem dL_addMark_2 : decode cL_addMark 2 = .ok (.iconst 0, 1) := by decide +kernel
theorem dL_addMark_3 : decode cL_addMark 3 = .ok (.aload_n 0, 1) := by decide +kernel
theorem dL_addMark_4 : decode cL_addMark 4 = .ok (.iload_n 1, 1) := by decide +kernel
theorem dL_addMark_5 : decode cL_addMark 5 = .ok (.iload_n 2, 1) := by decide +kernel
theorem dL_addMark_6 : decode cL_addMark 6 = .ok (.iload_n 3, 1) := by decide +kernel
theorem dL_addMark_7 : decode cL_addMark 7 = .ok (.invokevirtual 41, 3) := by decide +kernel
theorem dL_addMark_10 : decode cL_addMark 10 = .ok (.i2l, 1) := by decide +kernel
theorem dL_addMark_11 : decode cL_addMark 11 = .ok (.lastore, 1) := by decide +kernel
theorem dL_addMark_12 : decode cL_addMark 12 = .ok (.goto 15, 3) := by decide +kernel
theorem dL_addMark_15 : decode cL_addMark 15 = .ok (.astore 5, 2) := by decide +kernel
theorem dL_addMark_17 : decode cL_addMark 17 = .ok (.iconst 1, 1) := by decide +kernel
theorem dL_addMark_18 : decode cL_addMark 18 = .ok (.ireturn, 1) := by decide +kernel
theorem dL_addMark_19 : decode cL_addMark 19 = .ok (.astore 5, 2) := by decide +kernel
theorem dL_addMark_21 : decode cL_addMark 21 = .ok (.iconst 2, 1) := by decide +kernel
theorem dL_addMark_22 : decode cL_addMark 22 = .ok (.ireturn, 1) := by decide +kernel
theorem dL_addMark_23 : decode cL_addMark 23 = .ok (.astore 5, 2) := by decide +kernel
theorem dL_addMark_25 : decode cL_addMark 25 = .ok (.iconst 3, 1) := by decide +kernel
theorem dL_addMark_26 : decode cL_addMark 26 = .ok (.ireturn, 1) := by decide +kernel
theorem dL_addMark_27 : decode cL_addMark 27 = .ok (.iconst 0, 1) := by decide +kernel
theorem dL_addMark_28 : decode cL_addMark 28 = .ok (.ireturn, 1) := by decide +kernel
theorem dL_sense_0 : decode cL_sense 0 = .ok (.aload_n 3, 1) := by decide +kernel
theorem dL_sense_1 : decode cL_sense 1 = .ok (.iconst 0, 1) := by decide +kernel
theorem dL_sense_2 : decode cL_sense 2 = .ok (.aload_n 0, 1) := by decide +kernel
theorem dL_sense_3 : decode cL_sense 3 = .ok (.iload_n 1, 1) := by decide +kernel
theorem dL_sense_4 : decode cL_sense 4 = .ok (.iload_n 2, 1) := by decide +kernel
theorem dL_sense_5 : decode cL_sense 5 = .ok (.invokevirtual 47, 3) := by decide +kernel
theorem dL_sense_8 : decode cL_sense 8 = .ok (.i2l, 1) := by decide +kernel
theorem dL_sense_9 : decode cL_sense 9 = .ok (.lastore, 1) := by decide +kernel
theorem dL_sense_10 : decode cL_sense 10 = .ok (.goto 7, 3) := by decide +kernel
theorem dL_sense_13 : decode cL_sense 13 = .ok (.astore 4, 2) := by decide +kernel
theorem dL_sense_15 : decode cL_sense 15 = .ok (.iconst 1, 1) := by decide +kernel
theorem dL_sense_16 : decode cL_sense 16 = .ok (.ireturn, 1) := by decide +kernel
theorem dL_sense_17 : decode cL_sense 17 = .ok (.iconst 0, 1) := by decide +kernel
theorem dL_sense_18 : decode cL_sense 18 = .ok (.ireturn, 1) := by decide +kernel
theorem dL_inhibit_0 : decode cL_inhibit 0 = .ok (.aload_n 3, 1) := by decide +kernel
theorem dL_inhibit_1 : decode cL_inhibit 1 = .ok (.iconst 0, 1) := by decide +kernel
theorem dL_inhibit_2 : decode cL_inhibit 2 = .ok (.aload_n 0, 1) := by decide +kernel
theorem dL_inhibit_3 : decode cL_inhibit 3 = .ok (.iload_n 1, 1) := by decide +kernel
theorem dL_inhibit_4 : decode cL_inhibit 4 = .ok (.iload_n 2, 1) := by decide +kernel
theorem dL_inhibit_5 : decode cL_inhibit 5 = .ok (.invokevirtual 50, 3) := by decide +kernel
theorem dL_inhibit_8 : decode cL_inhibit 8 = .ok (.i2l, 1) := by decide +kernel
theorem dL_inhibit_9 : decode cL_inhibit 9 = .ok (.lastore, 1) := by decide +kernel
theorem dL_inhibit_10 : decode cL_inhibit 10 = .ok (.goto 11, 3) := by decide +kernel
theorem dL_inhibit_13 : decode cL_inhibit 13 = .ok (.astore 4, 2) := by decide +kernel
theorem dL_inhibit_15 : decode cL_inhibit 15 = .ok (.iconst 1, 1) := by decide +kernel
theorem dL_inhibit_16 : decode cL_inhibit 16 = .ok (.ireturn, 1) := by decide +kernel
theorem dL_inhibit_17 : decode cL_inhibit 17 = .ok (.astore 4, 2) := by decide +kernel
theorem dL_inhibit_19 : decode cL_inhibit 19 = .ok (.iconst 2, 1) := by decide +kernel
theorem dL_inhibit_20 : decode cL_inhibit 20 = .ok (.ireturn, 1) := by decide +kernel
theorem dL_inhibit_21 : decode cL_inhibit 21 = .ok (.iconst 0, 1) := by decide +kernel
theorem dL_inhibit_22 : decode cL_inhibit 22 = .ok (.ireturn, 1) := by decide +kernel
theorem dL_setWind_0 : decode cL_setWind 0 = .ok (.aload_n 2, 1) := by decide +kernel
theorem dL_setWind_1 : decode cL_setWind 1 = .ok (.iconst 0, 1) := by decide +kernel
theorem dL_setWind_2 : decode cL_setWind 2 = .ok (.aload_n 0, 1) := by decide +kernel
theorem dL_setWind_3 : decode cL_setWind 3 = .ok (.iload_n 1, 1) := by decide +kernel
theorem dL_setWind_4 : decode cL_setWind 4 = .ok (.invokevirtual 54, 3) := by decide +kernel
theorem dL_setWind_7 : decode cL_setWind 7 = .ok (.i2l, 1) := by decide +kernel
theorem dL_setWind_8 : decode cL_setWind 8 = .ok (.lastore, 1) := by decide +kernel
theorem dL_setWind_9 : decode cL_setWind 9 = .ok (.goto 6, 3) := by decide +kernel
theorem dL_setWind_12 : decode cL_setWind 12 = .ok (.astore_n 3, 1) := by decide +kernel
theorem dL_setWind_13 : decode cL_setWind 13 = .ok (.iconst 1, 1) := by decide +kernel
theorem dL_setWind_14 : decode cL_setWind 14 = .ok (.ireturn, 1) := by decide +kernel
theorem dL_setWind_15 : decode cL_setWind 15 = .ok (.iconst 0, 1) := by decide +kernel
theorem dL_setWind_16 : decode cL_setWind 16 = .ok (.ireturn, 1) := by decide +kernel
theorem dL_strike_0 : decode cL_strike 0 = .ok (.aload_n 2, 1) := by decide +kernel
theorem dL_strike_1 : decode cL_strike 1 = .ok (.iconst 0, 1) := by decide +kernel
theorem dL_strike_2 : decode cL_strike 2 = .ok (.aload_n 0, 1) := by decide +kernel
theorem dL_strike_3 : decode cL_strike 3 = .ok (.iload_n 1, 1) := by decide +kernel
theorem dL_strike_4 : decode cL_strike 4 = .ok (.invokevirtual 57, 3) := by decide +kernel
theorem dL_strike_7 : decode cL_strike 7 = .ok (.i2l, 1) := by decide +kernel
theorem dL_strike_8 : decode cL_strike 8 = .ok (.lastore, 1) := by decide +kernel
theorem dL_strike_9 : decode cL_strike 9 = .ok (.goto 6, 3) := by decide +kernel
theorem dL_strike_12 : decode cL_strike 12 = .ok (.astore_n 3, 1) := by decide +kernel
theorem dL_strike_13 : decode cL_strike 13 = .ok (.iconst 1, 1) := by decide +kernel
theorem dL_strike_14 : decode cL_strike 14 = .ok (.ireturn, 1) := by decide +kernel
theorem dL_strike_15 : decode cL_strike 15 = .ok (.iconst 0, 1) := by decide +kernel
theorem dL_strike_16 : decode cL_strike 16 = .ok (.ireturn, 1) := by decide +kernel
theorem dL_boat_0 : decode cL_boat 0 = .ok (.aload 4, 2) := by decide +kernel
theorem dL_boat_2 : decode cL_boat 2 = .ok (.iconst 0, 1) := by decide +kernel
theorem dL_boat_3 : decode cL_boat 3 = .ok (.aload_n 0, 1) := by decide +kernel
theorem dL_boat_4 : decode cL_boat 4 = .ok (.iload_n 1, 1) := by decide +kernel
theorem dL_boat_5 : decode cL_boat 5 = .ok (.iload_n 2, 1) := by decide +kernel
theorem dL_boat_6 : decode cL_boat 6 = .ok (.iload_n 3, 1) := by decide +kernel
theorem dL_boat_7 : decode cL_boat 7 = .ok (.invokevirtual 60, 3) := by decide +kernel
theorem dL_boat_10 : decode cL_boat 10 = .ok (.i2l, 1) := by decide +kernel
theorem dL_boat_11 : decode cL_boat 11 = .ok (.lastore, 1) := by decide +kernel
theorem dL_boat_12 : decode cL_boat 12 = .ok (.goto 7, 3) := by decide +kernel
theorem dL_boat_15 : decode cL_boat 15 = .ok (.astore 5, 2) := by decide +kernel
theorem dL_boat_17 : decode cL_boat 17 = .ok (.iconst 1, 1) := by decide +kernel
theorem dL_boat_18 : decode cL_boat 18 = .ok (.ireturn, 1) := by decide +kernel
theorem dL_boat_19 : decode cL_boat 19 = .ok (.iconst 0, 1) := by decide +kernel
theorem dL_boat_20 : decode cL_boat 20 = .ok (.ireturn, 1) := by decide +kernel
theorem dL_addRule_0 : decode cL_addRule 0 = .ok (.aload 6, 2) := by decide +kernel
theorem dL_addRule_2 : decode cL_addRule 2 = .ok (.iconst 0, 1) := by decide +kernel
theorem dL_addRule_3 : decode cL_addRule 3 = .ok (.aload_n 0, 1) := by decide +kernel
theorem dL_addRule_4 : decode cL_addRule 4 = .ok (.iload_n 1, 1) := by decide +kernel
theorem dL_addRule_5 : decode cL_addRule 5 = .ok (.iload_n 2, 1) := by decide +kernel
theorem dL_addRule_6 : decode cL_addRule 6 = .ok (.iload_n 3, 1) := by decide +kernel
theorem dL_addRule_7 : decode cL_addRule 7 = .ok (.iload 4, 2) := by decide +kernel
theorem dL_addRule_9 : decode cL_addRule 9 = .ok (.iload 5, 2) := by decide +kernel
theorem dL_addRule_11 : decode cL_addRule 11 = .ok (.invokevirtual 63, 3) := by decide +kernel
theorem dL_addRule_14 : decode cL_addRule 14 = .ok (.i2l, 1) := by decide +kernel
theorem dL_addRule_15 : decode cL_addRule 15 = .ok (.lastore, 1) := by decide +kernel
theorem dL_addRule_16 : decode cL_addRule 16 = .ok (.goto 11, 3) := by decide +kernel
theorem dL_addRule_19 : decode cL_addRule 19 = .ok (.astore 7, 2) := by decide +kernel
theorem dL_addRule_21 : decode cL_addRule 21 = .ok (.iconst 1, 1) := by decide +kernel
theorem dL_addRule_22 : decode cL_addRule 22 = .ok (.ireturn, 1) := by decide +kernel
theorem dL_addRule_23 : decode cL_addRule 23 = .ok (.astore 7, 2) := by decide +kernel
theorem dL_addRule_25 : decode cL_addRule 25 = .ok (.iconst 2, 1) := by decide +kernel
theorem dL_addRule_26 : decode cL_addRule 26 = .ok (.ireturn, 1) := by decide +kernel
theorem dL_addRule_27 : decode cL_addRule 27 = .ok (.iconst 0, 1) := by decide +kernel
theorem dL_addRule_28 : decode cL_addRule 28 = .ok (.ireturn, 1) := by decide +kernel
theorem dL_mayWaive_0 : decode cL_mayWaive 0 = .ok (.aload_n 3, 1) := by decide +kernel
theorem dL_mayWaive_1 : decode cL_mayWaive 1 = .ok (.iconst 0, 1) := by decide +kernel
theorem dL_mayWaive_2 : decode cL_mayWaive 2 = .ok (.aload_n 0, 1) := by decide +kernel
theorem dL_mayWaive_3 : decode cL_mayWaive 3 = .ok (.iload_n 1, 1) := by decide +kernel
theorem dL_mayWaive_4 : decode cL_mayWaive 4 = .ok (.iload_n 2, 1) := by decide +kernel
theorem dL_mayWaive_5 : decode cL_mayWaive 5 = .ok (.invokevirtual 67, 3) := by decide +kernel
theorem dL_mayWaive_8 : decode cL_mayWaive 8 = .ok (.ifCond .eq 7, 3) := by decide +kernel
theorem dL_mayWaive_11 : decode cL_mayWaive 11 = .ok (.lconst 1, 1) := by decide +kernel
theorem dL_mayWaive_12 : decode cL_mayWaive 12 = .ok (.goto 4, 3) := by decide +kernel
theorem dL_mayWaive_15 : decode cL_mayWaive 15 = .ok (.lconst 0, 1) := by decide +kernel
theorem dL_mayWaive_16 : decode cL_mayWaive 16 = .ok (.lastore, 1) := by decide +kernel
theorem dL_mayWaive_17 : decode cL_mayWaive 17 = .ok (.goto 11, 3) := by decide +kernel
theorem dL_mayWaive_20 : decode cL_mayWaive 20 = .ok (.astore 4, 2) := by decide +kernel
theorem dL_mayWaive_22 : decode cL_mayWaive 22 = .ok (.iconst 1, 1) := by decide +kernel
theorem dL_mayWaive_23 : decode cL_mayWaive 23 = .ok (.ireturn, 1) := by decide +kernel
theorem dL_mayWaive_24 : decode cL_mayWaive 24 = .ok (.astore 4, 2) := by decide +kernel
theorem dL_mayWaive_26 : decode cL_mayWaive 26 = .ok (.iconst 2, 1) := by decide +kernel
theorem dL_mayWaive_27 : decode cL_mayWaive 27 = .ok (.ireturn, 1) := by decide +kernel
theorem dL_mayWaive_28 : decode cL_mayWaive 28 = .ok (.iconst 0, 1) := by decide +kernel
theorem dL_mayWaive_29 : decode cL_mayWaive 29 = .ok (.ireturn, 1) := by decide +kernel
theorem dL_waive_0 : decode cL_waive 0 = .ok (.aload 4, 2) := by decide +kernel
theorem dL_waive_2 : decode cL_waive 2 = .ok (.iconst 0, 1) := by decide +kernel
theorem dL_waive_3 : decode cL_waive 3 = .ok (.aload_n 0, 1) := by decide +kernel
theorem dL_waive_4 : decode cL_waive 4 = .ok (.iload_n 1, 1) := by decide +kernel
theorem dL_waive_5 : decode cL_waive 5 = .ok (.iload_n 2, 1) := by decide +kernel
theorem dL_waive_6 : decode cL_waive 6 = .ok (.iload_n 3, 1) := by decide +kernel
theorem dL_waive_7 : decode cL_waive 7 = .ok (.invokevirtual 71, 3) := by decide +kernel
theorem dL_waive_10 : decode cL_waive 10 = .ok (.ifCond .eq 7, 3) := by decide +kernel
theorem dL_waive_13 : decode cL_waive 13 = .ok (.lconst 1, 1) := by decide +kernel
theorem dL_waive_14 : decode cL_waive 14 = .ok (.goto 4, 3) := by decide +kernel
theorem dL_waive_17 : decode cL_waive 17 = .ok (.lconst 0, 1) := by decide +kernel
theorem dL_waive_18 : decode cL_waive 18 = .ok (.lastore, 1) := by decide +kernel
theorem dL_waive_19 : decode cL_waive 19 = .ok (.goto 15, 3) := by decide +kernel
theorem dL_waive_22 : decode cL_waive 22 = .ok (.astore 5, 2) := by decide +kernel
theorem dL_waive_24 : decode cL_waive 24 = .ok (.iconst 1, 1) := by decide +kernel
theorem dL_waive_25 : decode cL_waive 25 = .ok (.ireturn, 1) := by decide +kernel
theorem dL_waive_26 : decode cL_waive 26 = .ok (.astore 5, 2) := by decide +kernel
theorem dL_waive_28 : decode cL_waive 28 = .ok (.iconst 2, 1) := by decide +kernel
theorem dL_waive_29 : decode cL_waive 29 = .ok (.ireturn, 1) := by decide +kernel
theorem dL_waive_30 : decode cL_waive 30 = .ok (.astore 5, 2) := by decide +kernel
theorem dL_waive_32 : decode cL_waive 32 = .ok (.iconst 3, 1) := by decide +kernel
theorem dL_waive_33 : decode cL_waive 33 = .ok (.ireturn, 1) := by decide +kernel
theorem dL_waive_34 : decode cL_waive 34 = .ok (.iconst 0, 1) := by decide +kernel
theorem dL_waive_35 : decode cL_waive 35 = .ok (.ireturn, 1) := by decide +kernel
theorem dL_go_0 : decode cL_go 0 = .ok (.aload_n 3, 1) := by decide +kernel
theorem dL_go_1 : decode cL_go 1 = .ok (.iconst 0, 1) := by decide +kernel
theorem dL_go_2 : decode cL_go 2 = .ok (.aload_n 0, 1) := by decide +kernel
theorem dL_go_3 : decode cL_go 3 = .ok (.iload_n 1, 1) := by decide +kernel
theorem dL_go_4 : decode cL_go 4 = .ok (.iload_n 2, 1) := by decide +kernel
theorem dL_go_5 : decode cL_go 5 = .ok (.invokevirtual 75, 3) := by decide +kernel
theorem dL_go_8 : decode cL_go 8 = .ok (.ifCond .eq 7, 3) := by decide +kernel
theorem dL_go_11 : decode cL_go 11 = .ok (.lconst 1, 1) := by decide +kernel
theorem dL_go_12 : decode cL_go 12 = .ok (.goto 4, 3) := by decide +kernel
theorem dL_go_15 : decode cL_go 15 = .ok (.lconst 0, 1) := by decide +kernel
theorem dL_go_16 : decode cL_go 16 = .ok (.lastore, 1) := by decide +kernel
theorem dL_go_17 : decode cL_go 17 = .ok (.goto 7, 3) := by decide +kernel
theorem dL_go_20 : decode cL_go 20 = .ok (.astore 4, 2) := by decide +kernel
theorem dL_go_22 : decode cL_go 22 = .ok (.iconst 1, 1) := by decide +kernel
theorem dL_go_23 : decode cL_go 23 = .ok (.ireturn, 1) := by decide +kernel
theorem dL_go_24 : decode cL_go 24 = .ok (.iconst 0, 1) := by decide +kernel
theorem dL_go_25 : decode cL_go 25 = .ok (.ireturn, 1) := by decide +kernel
theorem dL_value_0 : decode cL_value 0 = .ok (.aload_n 2, 1) := by decide +kernel
theorem dL_value_1 : decode cL_value 1 = .ok (.iconst 0, 1) := by decide +kernel
theorem dL_value_2 : decode cL_value 2 = .ok (.aload_n 0, 1) := by decide +kernel
theorem dL_value_3 : decode cL_value 3 = .ok (.iload_n 1, 1) := by decide +kernel
theorem dL_value_4 : decode cL_value 4 = .ok (.invokevirtual 78, 3) := by decide +kernel
theorem dL_value_7 : decode cL_value 7 = .ok (.i2l, 1) := by decide +kernel
theorem dL_value_8 : decode cL_value 8 = .ok (.lastore, 1) := by decide +kernel
theorem dL_value_9 : decode cL_value 9 = .ok (.goto 6, 3) := by decide +kernel
theorem dL_value_12 : decode cL_value 12 = .ok (.astore_n 3, 1) := by decide +kernel
theorem dL_value_13 : decode cL_value 13 = .ok (.iconst 1, 1) := by decide +kernel
theorem dL_value_14 : decode cL_value 14 = .ok (.ireturn, 1) := by decide +kernel
theorem dL_value_15 : decode cL_value 15 = .ok (.iconst 0, 1) := by decide +kernel
theorem dL_value_16 : decode cL_value 16 = .ok (.ireturn, 1) := by decide +kernel
theorem dL_holdsFor_0 : decode cL_holdsFor 0 = .ok (.aload_n 2, 1) := by decide +kernel
theorem dL_holdsFor_1 : decode cL_holdsFor 1 = .ok (.iconst 0, 1) := by decide +kernel
theorem dL_holdsFor_2 : decode cL_holdsFor 2 = .ok (.aload_n 0, 1) := by decide +kernel
theorem dL_holdsFor_3 : decode cL_holdsFor 3 = .ok (.iload_n 1, 1) := by decide +kernel
theorem dL_holdsFor_4 : decode cL_holdsFor 4 = .ok (.invokevirtual 81, 3) := by decide +kernel
theorem dL_holdsFor_7 : decode cL_holdsFor 7 = .ok (.i2l, 1) := by decide +kernel
theorem dL_holdsFor_8 : decode cL_holdsFor 8 = .ok (.lastore, 1) := by decide +kernel
theorem dL_holdsFor_9 : decode cL_holdsFor 9 = .ok (.goto 6, 3) := by decide +kernel
theorem dL_holdsFor_12 : decode cL_holdsFor 12 = .ok (.astore_n 3, 1) := by decide +kernel
theorem dL_holdsFor_13 : decode cL_holdsFor 13 = .ok (.iconst 1, 1) := by decide +kernel
theorem dL_holdsFor_14 : decode cL_holdsFor 14 = .ok (.ireturn, 1) := by decide +kernel
theorem dL_holdsFor_15 : decode cL_holdsFor 15 = .ok (.iconst 0, 1) := by decide +kernel
theorem dL_holdsFor_16 : decode cL_holdsFor 16 = .ok (.ireturn, 1) := by decide +kernel
theorem dL_isMet_0 : decode cL_isMet 0 = .ok (.aload_n 2, 1) := by decide +kernel
theorem dL_isMet_1 : decode cL_isMet 1 = .ok (.iconst 0, 1) := by decide +kernel
theorem dL_isMet_2 : decode cL_isMet 2 = .ok (.aload_n 0, 1) := by decide +kernel
theorem dL_isMet_3 : decode cL_isMet 3 = .ok (.iload_n 1, 1) := by decide +kernel
theorem dL_isMet_4 : decode cL_isMet 4 = .ok (.invokevirtual 84, 3) := by decide +kernel
theorem dL_isMet_7 : decode cL_isMet 7 = .ok (.ifCond .eq 7, 3) := by decide +kernel
theorem dL_isMet_10 : decode cL_isMet 10 = .ok (.lconst 1, 1) := by decide +kernel
theorem dL_isMet_11 : decode cL_isMet 11 = .ok (.goto 4, 3) := by decide +kernel
theorem dL_isMet_14 : decode cL_isMet 14 = .ok (.lconst 0, 1) := by decide +kernel
theorem dL_isMet_15 : decode cL_isMet 15 = .ok (.lastore, 1) := by decide +kernel
theorem dL_isMet_16 : decode cL_isMet 16 = .ok (.goto 6, 3) := by decide +kernel
theorem dL_isMet_19 : decode cL_isMet 19 = .ok (.astore_n 3, 1) := by decide +kernel
theorem dL_isMet_20 : decode cL_isMet 20 = .ok (.iconst 1, 1) := by decide +kernel
theorem dL_isMet_21 : decode cL_isMet 21 = .ok (.ireturn, 1) := by decide +kernel
theorem dL_isMet_22 : decode cL_isMet 22 = .ok (.iconst 0, 1) := by decide +kernel
theorem dL_isMet_23 : decode cL_isMet 23 = .ok (.ireturn, 1) := by decide +kernel
theorem dL_begin_0 : decode cL_begin 0 = .ok (.aload 4, 2) := by decide +kernel
theorem dL_begin_2 : decode cL_begin 2 = .ok (.iconst 0, 1) := by decide +kernel
theorem dL_begin_3 : decode cL_begin 3 = .ok (.aload_n 0, 1) := by decide +kernel
theorem dL_begin_4 : decode cL_begin 4 = .ok (.iload_n 1, 1) := by decide +kernel
theorem dL_begin_5 : decode cL_begin 5 = .ok (.iload_n 2, 1) := by decide +kernel
theorem dL_begin_6 : decode cL_begin 6 = .ok (.iload_n 3, 1) := by decide +kernel
theorem dL_begin_7 : decode cL_begin 7 = .ok (.invokevirtual 88, 3) := by decide +kernel
theorem dL_begin_10 : decode cL_begin 10 = .ok (.i2l, 1) := by decide +kernel
theorem dL_begin_11 : decode cL_begin 11 = .ok (.lastore, 1) := by decide +kernel
theorem dL_begin_12 : decode cL_begin 12 = .ok (.goto 11, 3) := by decide +kernel
theorem dL_begin_15 : decode cL_begin 15 = .ok (.astore 5, 2) := by decide +kernel
theorem dL_begin_17 : decode cL_begin 17 = .ok (.iconst 1, 1) := by decide +kernel
theorem dL_begin_18 : decode cL_begin 18 = .ok (.ireturn, 1) := by decide +kernel
theorem dL_begin_19 : decode cL_begin 19 = .ok (.astore 5, 2) := by decide +kernel
theorem dL_begin_21 : decode cL_begin 21 = .ok (.iconst 2, 1) := by decide +kernel
theorem dL_begin_22 : decode cL_begin 22 = .ok (.ireturn, 1) := by decide +kernel
theorem dL_begin_23 : decode cL_begin 23 = .ok (.iconst 0, 1) := by decide +kernel
theorem dL_begin_24 : decode cL_begin 24 = .ok (.ireturn, 1) := by decide +kernel
theorem dL_recycle_0 : decode cL_recycle 0 = .ok (.aload_n 2, 1) := by decide +kernel
theorem dL_recycle_1 : decode cL_recycle 1 = .ok (.iconst 0, 1) := by decide +kernel
theorem dL_recycle_2 : decode cL_recycle 2 = .ok (.aload_n 0, 1) := by decide +kernel
theorem dL_recycle_3 : decode cL_recycle 3 = .ok (.iload_n 1, 1) := by decide +kernel
theorem dL_recycle_4 : decode cL_recycle 4 = .ok (.invokevirtual 91, 3) := by decide +kernel
theorem dL_recycle_7 : decode cL_recycle 7 = .ok (.i2l, 1) := by decide +kernel
theorem dL_recycle_8 : decode cL_recycle 8 = .ok (.lastore, 1) := by decide +kernel
theorem dL_recycle_9 : decode cL_recycle 9 = .ok (.goto 9, 3) := by decide +kernel
theorem dL_recycle_12 : decode cL_recycle 12 = .ok (.astore_n 3, 1) := by decide +kernel
theorem dL_recycle_13 : decode cL_recycle 13 = .ok (.iconst 1, 1) := by decide +kernel
theorem dL_recycle_14 : decode cL_recycle 14 = .ok (.ireturn, 1) := by decide +kernel
theorem dL_recycle_15 : decode cL_recycle 15 = .ok (.astore_n 3, 1) := by decide +kernel
theorem dL_recycle_16 : decode cL_recycle 16 = .ok (.iconst 2, 1) := by decide +kernel
theorem dL_recycle_17 : decode cL_recycle 17 = .ok (.ireturn, 1) := by decide +kernel
theorem dL_recycle_18 : decode cL_recycle 18 = .ok (.iconst 0, 1) := by decide +kernel
theorem dL_recycle_19 : decode cL_recycle 19 = .ok (.ireturn, 1) := by decide +kernel
theorem dL_pass_0 : decode cL_pass 0 = .ok (.aload_n 2, 1) := by decide +kernel
theorem dL_pass_1 : decode cL_pass 1 = .ok (.iconst 0, 1) := by decide +kernel
theorem dL_pass_2 : decode cL_pass 2 = .ok (.aload_n 0, 1) := by decide +kernel
theorem dL_pass_3 : decode cL_pass 3 = .ok (.iload_n 1, 1) := by decide +kernel
theorem dL_pass_4 : decode cL_pass 4 = .ok (.invokevirtual 94, 3) := by decide +kernel
theorem dL_pass_7 : decode cL_pass 7 = .ok (.i2l, 1) := by decide +kernel
theorem dL_pass_8 : decode cL_pass 8 = .ok (.lastore, 1) := by decide +kernel
theorem dL_pass_9 : decode cL_pass 9 = .ok (.goto 9, 3) := by decide +kernel
theorem dL_pass_12 : decode cL_pass 12 = .ok (.astore_n 3, 1) := by decide +kernel
theorem dL_pass_13 : decode cL_pass 13 = .ok (.iconst 1, 1) := by decide +kernel
theorem dL_pass_14 : decode cL_pass 14 = .ok (.ireturn, 1) := by decide +kernel
theorem dL_pass_15 : decode cL_pass 15 = .ok (.astore_n 3, 1) := by decide +kernel
theorem dL_pass_16 : decode cL_pass 16 = .ok (.iconst 2, 1) := by decide +kernel
theorem dL_pass_17 : decode cL_pass 17 = .ok (.ireturn, 1) := by decide +kernel
theorem dL_pass_18 : decode cL_pass 18 = .ok (.iconst 0, 1) := by decide +kernel
theorem dL_pass_19 : decode cL_pass 19 = .ok (.ireturn, 1) := by decide +kernel
theorem dL_track_0 : decode cL_track 0 = .ok (.aload_n 3, 1) := by decide +kernel
theorem dL_track_1 : decode cL_track 1 = .ok (.iconst 0, 1) := by decide +kernel
theorem dL_track_2 : decode cL_track 2 = .ok (.aload_n 0, 1) := by decide +kernel
theorem dL_track_3 : decode cL_track 3 = .ok (.iload_n 1, 1) := by decide +kernel
theorem dL_track_4 : decode cL_track 4 = .ok (.iload_n 2, 1) := by decide +kernel
theorem dL_track_5 : decode cL_track 5 = .ok (.invokevirtual 97, 3) := by decide +kernel
theorem dL_track_8 : decode cL_track 8 = .ok (.i2l, 1) := by decide +kernel
theorem dL_track_9 : decode cL_track 9 = .ok (.lastore, 1) := by decide +kernel
theorem dL_track_10 : decode cL_track 10 = .ok (.goto 7, 3) := by decide +kernel
theorem dL_track_13 : decode cL_track 13 = .ok (.astore 4, 2) := by decide +kernel
theorem dL_track_15 : decode cL_track 15 = .ok (.iconst 1, 1) := by decide +kernel
theorem dL_track_16 : decode cL_track 16 = .ok (.ireturn, 1) := by decide +kernel
theorem dL_track_17 : decode cL_track 17 = .ok (.iconst 0, 1) := by decide +kernel
theorem dL_track_18 : decode cL_track 18 = .ok (.ireturn, 1) := by decide +kernel
theorem dL_count_0 : decode cL_count 0 = .ok (.aload_n 1, 1) := by decide +kernel
theorem dL_count_1 : decode cL_count 1 = .ok (.iconst 0, 1) := by decide +kernel
theorem dL_count_2 : decode cL_count 2 = .ok (.aload_n 0, 1) := by decide +kernel
theorem dL_count_3 : decode cL_count 3 = .ok (.invokevirtual 100, 3) := by decide +kernel
theorem dL_count_6 : decode cL_count 6 = .ok (.i2l, 1) := by decide +kernel
theorem dL_count_7 : decode cL_count 7 = .ok (.lastore, 1) := by decide +kernel
theorem dL_count_8 : decode cL_count 8 = .ok (.goto 6, 3) := by decide +kernel
theorem dL_count_11 : decode cL_count 11 = .ok (.astore_n 2, 1) := by decide +kernel
theorem dL_count_12 : decode cL_count 12 = .ok (.iconst 1, 1) := by decide +kernel
theorem dL_count_13 : decode cL_count 13 = .ok (.ireturn, 1) := by decide +kernel
theorem dL_count_14 : decode cL_count 14 = .ok (.iconst 0, 1) := by decide +kernel
theorem dL_count_15 : decode cL_count 15 = .ok (.ireturn, 1) := by decide +kernel
theorem dL_holds_0 : decode cL_holds 0 = .ok (.aload_n 1, 1) := by decide +kernel
theorem dL_holds_1 : decode cL_holds 1 = .ok (.iconst 0, 1) := by decide +kernel
theorem dL_holds_2 : decode cL_holds 2 = .ok (.aload_n 0, 1) := by decide +kernel
theorem dL_holds_3 : decode cL_holds 3 = .ok (.invokevirtual 104, 3) := by decide +kernel
theorem dL_holds_6 : decode cL_holds 6 = .ok (.i2l, 1) := by decide +kernel
theorem dL_holds_7 : decode cL_holds 7 = .ok (.lastore, 1) := by decide +kernel
theorem dL_holds_8 : decode cL_holds 8 = .ok (.goto 6, 3) := by decide +kernel
theorem dL_holds_11 : decode cL_holds 11 = .ok (.astore_n 2, 1) := by decide +kernel
theorem dL_holds_12 : decode cL_holds 12 = .ok (.iconst 1, 1) := by decide +kernel
theorem dL_holds_13 : decode cL_holds 13 = .ok (.ireturn, 1) := by decide +kernel
theorem dL_holds_14 : decode cL_holds 14 = .ok (.iconst 0, 1) := by decide +kernel
theorem dL_holds_15 : decode cL_holds 15 = .ok (.ireturn, 1) := by decide +kernel
theorem dL_cause_0 : decode cL_cause 0 = .ok (.aload_n 1, 1) := by decide +kernel
theorem dL_cause_1 : decode cL_cause 1 = .ok (.iconst 0, 1) := by decide +kernel
theorem dL_cause_2 : decode cL_cause 2 = .ok (.aload_n 0, 1) := by decide +kernel
theorem dL_cause_3 : decode cL_cause 3 = .ok (.invokevirtual 107, 3) := by decide +kernel
theorem dL_cause_6 : decode cL_cause 6 = .ok (.i2l, 1) := by decide +kernel
theorem dL_cause_7 : decode cL_cause 7 = .ok (.lastore, 1) := by decide +kernel
theorem dL_cause_8 : decode cL_cause 8 = .ok (.goto 6, 3) := by decide +kernel
theorem dL_cause_11 : decode cL_cause 11 = .ok (.astore_n 2, 1) := by decide +kernel
theorem dL_cause_12 : decode cL_cause 12 = .ok (.iconst 1, 1) := by decide +kernel
theorem dL_cause_13 : decode cL_cause 13 = .ok (.ireturn, 1) := by decide +kernel
theorem dL_cause_14 : decode cL_cause 14 = .ok (.iconst 0, 1) := by decide +kernel
theorem dL_cause_15 : decode cL_cause 15 = .ok (.ireturn, 1) := by decide +kernel
theorem dL_causeRule_0 : decode cL_causeRule 0 = .ok (.aload_n 1, 1) := by decide +kernel
theorem dL_causeRule_1 : decode cL_causeRule 1 = .ok (.iconst 0, 1) := by decide +kernel
theorem dL_causeRule_2 : decode cL_causeRule 2 = .ok (.aload_n 0, 1) := by decide +kernel
theorem dL_causeRule_3 : decode cL_causeRule 3 = .ok (.invokevirtual 113, 3) := by decide +kernel
theorem dL_causeRule_6 : decode cL_causeRule 6 = .ok (.i2l, 1) := by decide +kernel
theorem dL_causeRule_7 : decode cL_causeRule 7 = .ok (.lastore, 1) := by decide +kernel
theorem dL_causeRule_8 : decode cL_causeRule 8 = .ok (.goto 6, 3) := by decide +kernel
theorem dL_causeRule_11 : decode cL_causeRule 11 = .ok (.astore_n 2, 1) := by decide +kernel
theorem dL_causeRule_12 : decode cL_causeRule 12 = .ok (.iconst 1, 1) := by decide +kernel
theorem dL_causeRule_13 : decode cL_causeRule 13 = .ok (.ireturn, 1) := by decide +kernel
theorem dL_causeRule_14 : decode cL_causeRule 14 = .ok (.iconst 0, 1) := by decide +kernel
theorem dL_causeRule_15 : decode cL_causeRule 15 = .ok (.ireturn, 1) := by decide +kernel
theorem dL_logAt_0 : decode cL_logAt 0 = .ok (.aload_n 2, 1) := by decide +kernel
theorem dL_logAt_1 : decode cL_logAt 1 = .ok (.iconst 0, 1) := by decide +kernel
theorem dL_logAt_2 : decode cL_logAt 2 = .ok (.aload_n 0, 1) := by decide +kernel
theorem dL_logAt_3 : decode cL_logAt 3 = .ok (.iload_n 1, 1) := by decide +kernel
theorem dL_logAt_4 : decode cL_logAt 4 = .ok (.invokevirtual 116, 3) := by decide +kernel
theorem dL_logAt_7 : decode cL_logAt 7 = .ok (.i2l, 1) := by decide +kernel
theorem dL_logAt_8 : decode cL_logAt 8 = .ok (.lastore, 1) := by decide +kernel
theorem dL_logAt_9 : decode cL_logAt 9 = .ok (.goto 6, 3) := by decide +kernel
theorem dL_logAt_12 : decode cL_logAt 12 = .ok (.astore_n 3, 1) := by decide +kernel
theorem dL_logAt_13 : decode cL_logAt 13 = .ok (.iconst 1, 1) := by decide +kernel
theorem dL_logAt_14 : decode cL_logAt 14 = .ok (.ireturn, 1) := by decide +kernel
theorem dL_logAt_15 : decode cL_logAt 15 = .ok (.iconst 0, 1) := by decide +kernel
theorem dL_logAt_16 : decode cL_logAt 16 = .ok (.ireturn, 1) := by decide +kernel
theorem dL_metShare_0 : decode cL_metShare 0 = .ok (.aload_n 1, 1) := by decide +kernel
theorem dL_metShare_1 : decode cL_metShare 1 = .ok (.iconst 0, 1) := by decide +kernel
theorem dL_metShare_2 : decode cL_metShare 2 = .ok (.aload_n 0, 1) := by decide +kernel
theorem dL_metShare_3 : decode cL_metShare 3 = .ok (.invokevirtual 119, 3) := by decide +kernel
theorem dL_metShare_6 : decode cL_metShare 6 = .ok (.f2d, 1) := by decide +kernel
theorem dL_metShare_7 : decode cL_metShare 7 = .ok (.dastore, 1) := by decide +kernel
theorem dL_metShare_8 : decode cL_metShare 8 = .ok (.goto 6, 3) := by decide +kernel
theorem dL_metShare_11 : decode cL_metShare 11 = .ok (.astore_n 2, 1) := by decide +kernel
theorem dL_metShare_12 : decode cL_metShare 12 = .ok (.iconst 1, 1) := by decide +kernel
theorem dL_metShare_13 : decode cL_metShare 13 = .ok (.ireturn, 1) := by decide +kernel
theorem dL_metShare_14 : decode cL_metShare 14 = .ok (.iconst 0, 1) := by decide +kernel
theorem dL_metShare_15 : decode cL_metShare 15 = .ok (.ireturn, 1) := by decide +kernel
theorem dL_meanFill_0 : decode cL_meanFill 0 = .ok (.aload_n 1, 1) := by decide +kernel
theorem dL_meanFill_1 : decode cL_meanFill 1 = .ok (.iconst 0, 1) := by decide +kernel
theorem dL_meanFill_2 : decode cL_meanFill 2 = .ok (.aload_n 0, 1) := by decide +kernel
theorem dL_meanFill_3 : decode cL_meanFill 3 = .ok (.invokevirtual 125, 3) := by decide +kernel
theorem dL_meanFill_6 : decode cL_meanFill 6 = .ok (.dastore, 1) := by decide +kernel
theorem dL_meanFill_7 : decode cL_meanFill 7 = .ok (.goto 6, 3) := by decide +kernel
theorem dL_meanFill_10 : decode cL_meanFill 10 = .ok (.astore_n 2, 1) := by decide +kernel
theorem dL_meanFill_11 : decode cL_meanFill 11 = .ok (.iconst 1, 1) := by decide +kernel
theorem dL_meanFill_12 : decode cL_meanFill 12 = .ok (.ireturn, 1) := by decide +kernel
theorem dL_meanFill_13 : decode cL_meanFill 13 = .ok (.iconst 0, 1) := by decide +kernel
theorem dL_meanFill_14 : decode cL_meanFill 14 = .ok (.ireturn, 1) := by decide +kernel
theorem dL_law_0 : decode cL_law 0 = .ok (.new 8, 3) := by decide +kernel
theorem dL_law_3 : decode cL_law 3 = .ok (.dup, 1) := by decide +kernel
theorem dL_law_4 : decode cL_law 4 = .ok (.invokespecial 129, 3) := by decide +kernel
theorem dL_law_7 : decode cL_law 7 = .ok (.astore_n 1, 1) := by decide +kernel
theorem dL_law_8 : decode cL_law 8 = .ok (.new 130, 3) := by decide +kernel
theorem dL_law_11 : decode cL_law 11 = .ok (.dup, 1) := by decide +kernel
theorem dL_law_12 : decode cL_law 12 = .ok (.invokespecial 132, 3) := by decide +kernel
theorem dL_law_15 : decode cL_law 15 = .ok (.astore_n 2, 1) := by decide +kernel
theorem dL_law_16 : decode cL_law 16 = .ok (.iconst 1, 1) := by decide +kernel
theorem dL_law_17 : decode cL_law 17 = .ok (.newarray .long, 2) := by decide +kernel
theorem dL_law_19 : decode cL_law 19 = .ok (.astore_n 3, 1) := by decide +kernel
theorem dL_law_20 : decode cL_law 20 = .ok (.iconst 1, 1) := by decide +kernel
theorem dL_law_21 : decode cL_law 21 = .ok (.newarray .double, 2) := by decide +kernel
theorem dL_law_23 : decode cL_law 23 = .ok (.astore 4, 2) := by decide +kernel
theorem dL_law_25 : decode cL_law 25 = .ok (.iconst 0, 1) := by decide +kernel
theorem dL_law_26 : decode cL_law 26 = .ok (.istore 5, 2) := by decide +kernel
theorem dL_law_28 : decode cL_law 28 = .ok (.iload 5, 2) := by decide +kernel
theorem dL_law_30 : decode cL_law 30 = .ok (.aload_n 0, 1) := by decide +kernel
theorem dL_law_31 : decode cL_law 31 = .ok (.arraylength, 1) := by decide +kernel
theorem dL_law_32 : decode cL_law 32 = .ok (.bipush 6, 2) := by decide +kernel
theorem dL_law_34 : decode cL_law 34 = .ok (.isub, 1) := by decide +kernel
theorem dL_law_35 : decode cL_law 35 = .ok (.if_icmp .gt 2386, 3) := by decide +kernel
theorem dL_law_38 : decode cL_law 38 = .ok (.aload_n 0, 1) := by decide +kernel
theorem dL_law_39 : decode cL_law 39 = .ok (.iload 5, 2) := by decide +kernel
theorem dL_law_41 : decode cL_law 41 = .ok (.iaload, 1) := by decide +kernel
theorem dL_law_42 : decode cL_law 42 = .ok (.bipush 63, 2) := by decide +kernel
theorem dL_law_44 : decode cL_law 44 = .ok (.iand, 1) := by decide +kernel
theorem dL_law_45 : decode cL_law 45 = .ok (.tableswitch 2370 0 38 #[171, 263, 354, 422, 478, 546, 614, 670, 750, 818, 902, 958, 1014, 1094, 1200, 1275, 1362, 1453, 1509, 1565, 1628, 1708, 1764, 1777, 1833, 1901, 1914, 1958, 1971, 2015, 2059, 2103, 2116, 2129, 2185, 2212, 2226, 2292, 2357], 171) := by decide +kernel
theorem dL_law_216 : decode cL_law 216 = .ok (.aload_n 1, 1) := by decide +kernel
theorem dL_law_217 : decode cL_law 217 = .ok (.aload_n 0, 1) := by decide +kernel
theorem dL_law_218 : decode cL_law 218 = .ok (.iload 5, 2) := by decide +kernel
theorem dL_law_220 : decode cL_law 220 = .ok (.iconst 1, 1) := by decide +kernel
theorem dL_law_221 : decode cL_law 221 = .ok (.iadd, 1) := by decide +kernel
theorem dL_law_222 : decode cL_law 222 = .ok (.iaload, 1) := by decide +kernel
theorem dL_law_223 : decode cL_law 223 = .ok (.aload_n 0, 1) := by decide +kernel
theorem dL_law_224 : decode cL_law 224 = .ok (.iload 5, 2) := by decide +kernel
theorem dL_law_226 : decode cL_law 226 = .ok (.iconst 2, 1) := by decide +kernel
theorem dL_law_227 : decode cL_law 227 = .ok (.iadd, 1) := by decide +kernel
theorem dL_law_228 : decode cL_law 228 = .ok (.iaload, 1) := by decide +kernel
theorem dL_law_229 : decode cL_law 229 = .ok (.aload_n 0, 1) := by decide +kernel
theorem dL_law_230 : decode cL_law 230 = .ok (.iload 5, 2) := by decide +kernel
theorem dL_law_232 : decode cL_law 232 = .ok (.iconst 3, 1) := by decide +kernel
theorem dL_law_233 : decode cL_law 233 = .ok (.iadd, 1) := by decide +kernel
theorem dL_law_234 : decode cL_law 234 = .ok (.iaload, 1) := by decide +kernel
theorem dL_law_235 : decode cL_law 235 = .ok (.aload_n 0, 1) := by decide +kernel
theorem dL_law_236 : decode cL_law 236 = .ok (.iload 5, 2) := by decide +kernel
theorem dL_law_238 : decode cL_law 238 = .ok (.iconst 4, 1) := by decide +kernel
theorem dL_law_239 : decode cL_law 239 = .ok (.iadd, 1) := by decide +kernel
theorem dL_law_240 : decode cL_law 240 = .ok (.iaload, 1) := by decide +kernel
theorem dL_law_241 : decode cL_law 241 = .ok (.aload_n 3, 1) := by decide +kernel
theorem dL_law_242 : decode cL_law 242 = .ok (.invokestatic 133, 3) := by decide +kernel
theorem dL_law_245 : decode cL_law 245 = .ok (.istore 6, 2) := by decide +kernel
theorem dL_law_247 : decode cL_law 247 = .ok (.aload_n 2, 1) := by decide +kernel
theorem dL_law_248 : decode cL_law 248 = .ok (.aload_n 0, 1) := by decide +kernel
theorem dL_law_249 : decode cL_law 249 = .ok (.iload 5, 2) := by decide +kernel
theorem dL_law_251 : decode cL_law 251 = .ok (.iconst 1, 1) := by decide +kernel
theorem dL_law_252 : decode cL_law 252 = .ok (.iadd, 1) := by decide +kernel
theorem dL_law_253 : decode cL_law 253 = .ok (.iaload, 1) := by decide +kernel
theorem dL_law_254 : decode cL_law 254 = .ok (.aload_n 0, 1) := by decide +kernel
theorem dL_law_255 : decode cL_law 255 = .ok (.iload 5, 2) := by decide +kernel
theorem dL_law_257 : decode cL_law 257 = .ok (.iconst 2, 1) := by decide +kernel
theorem dL_law_258 : decode cL_law 258 = .ok (.iadd, 1) := by decide +kernel
theorem dL_law_259 : decode cL_law 259 = .ok (.iaload, 1) := by decide +kernel
theorem dL_law_260 : decode cL_law 260 = .ok (.aload_n 0, 1) := by decide +kernel
theorem dL_law_261 : decode cL_law 261 = .ok (.iload 5, 2) := by decide +kernel
theorem dL_law_263 : decode cL_law 263 = .ok (.iconst 3, 1) := by decide +kernel
theorem dL_law_264 : decode cL_law 264 = .ok (.iadd, 1) := by decide +kernel
theorem dL_law_265 : decode cL_law 265 = .ok (.iaload, 1) := by decide +kernel
theorem dL_law_266 : decode cL_law 266 = .ok (.aload_n 0, 1) := by decide +kernel
theorem dL_law_267 : decode cL_law 267 = .ok (.iload 5, 2) := by decide +kernel
theorem dL_law_269 : decode cL_law 269 = .ok (.iconst 4, 1) := by decide +kernel
theorem dL_law_270 : decode cL_law 270 = .ok (.iadd, 1) := by decide +kernel
theorem dL_law_271 : decode cL_law 271 = .ok (.iaload, 1) := by decide +kernel
theorem dL_law_272 : decode cL_law 272 = .ok (.invokevirtual 138, 3) := by decide +kernel
theorem dL_law_275 : decode cL_law 275 = .ok (.istore 7, 2) := by decide +kernel
theorem dL_law_277 : decode cL_law 277 = .ok (.aload_n 2, 1) := by decide +kernel
theorem dL_law_278 : decode cL_law 278 = .ok (.invokevirtual 139, 3) := by decide +kernel
theorem dL_law_281 : decode cL_law 281 = .ok (.iload 6, 2) := by decide +kernel
theorem dL_law_283 : decode cL_law 283 = .ok (.if_icmp .eq 5, 3) := by decide +kernel
theorem dL_law_286 : decode cL_law 286 = .ok (.iconst 0, 1) := by decide +kernel
theorem dL_law_287 : decode cL_law 287 = .ok (.ireturn, 1) := by decide +kernel
theorem dL_law_288 : decode cL_law 288 = .ok (.iload 6, 2) := by decide +kernel
theorem dL_law_290 : decode cL_law 290 = .ok (.ifCond .ne 15, 3) := by decide +kernel
theorem dL_law_293 : decode cL_law 293 = .ok (.aload_n 3, 1) := by decide +kernel
theorem dL_law_294 : decode cL_law 294 = .ok (.iconst 0, 1) := by decide +kernel
theorem dL_law_295 : decode cL_law 295 = .ok (.laload, 1) := by decide +kernel
theorem dL_law_296 : decode cL_law 296 = .ok (.iload 7, 2) := by decide +kernel
theorem dL_law_298 : decode cL_law 298 = .ok (.i2l, 1) := by decide +kernel
theorem dL_law_299 : decode cL_law 299 = .ok (.lcmp, 1) := by decide +kernel
theorem dL_law_300 : decode cL_law 300 = .ok (.ifCond .eq 5, 3) := by decide +kernel
theorem dL_law_303 : decode cL_law 303 = .ok (.iconst 0, 1) := by decide +kernel
theorem dL_law_304 : decode cL_law 304 = .ok (.ireturn, 1) := by decide +kernel
theorem dL_law_305 : decode cL_law 305 = .ok (.goto 2110, 3) := by decide +kernel
theorem dL_law_308 : decode cL_law 308 = .ok (.aload_n 1, 1) := by decide +kernel
theorem dL_law_309 : decode cL_law 309 = .ok (.aload_n 0, 1) := by decide +kernel
theorem dL_law_310 : decode cL_law 310 = .ok (.iload 5, 2) := by decide +kernel
theorem dL_law_312 : decode cL_law 312 = .ok (.iconst 1, 1) := by decide +kernel
theorem dL_law_313 : decode cL_law 313 = .ok (.iadd, 1) := by decide +kernel
theorem dL_law_314 : decode cL_law 314 = .ok (.iaload, 1) := by decide +kernel
theorem dL_law_315 : decode cL_law 315 = .ok (.aload_n 0, 1) := by decide +kernel
theorem dL_law_316 : decode cL_law 316 = .ok (.iload 5, 2) := by decide +kernel
theorem dL_law_318 : decode cL_law 318 = .ok (.iconst 2, 1) := by decide +kernel
theorem dL_law_319 : decode cL_law 319 = .ok (.iadd, 1) := by decide +kernel
theorem dL_law_320 : decode cL_law 320 = .ok (.iaload, 1) := by decide +kernel
theorem dL_law_321 : decode cL_law 321 = .ok (.ifCond .eq 7, 3) := by decide +kernel
theorem dL_law_324 : decode cL_law 324 = .ok (.iconst 1, 1) := by decide +kernel
theorem dL_law_325 : decode cL_law 325 = .ok (.goto 4, 3) := by decide +kernel
theorem dL_law_328 : decode cL_law 328 = .ok (.iconst 0, 1) := by decide +kernel
theorem dL_law_329 : decode cL_law 329 = .ok (.aload_n 3, 1) := by decide +kernel
theorem dL_law_330 : decode cL_law 330 = .ok (.invokestatic 142, 3) := by decide +kernel
theorem dL_law_333 : decode cL_law 333 = .ok (.istore 6, 2) := by decide +kernel
theorem dL_law_335 : decode cL_law 335 = .ok (.aload_n 2, 1) := by decide +kernel
theorem dL_law_336 : decode cL_law 336 = .ok (.aload_n 0, 1) := by decide +kernel
theorem dL_law_337 : decode cL_law 337 = .ok (.iload 5, 2) := by decide +kernel
theorem dL_law_339 : decode cL_law 339 = .ok (.iconst 1, 1) := by decide +kernel
theorem dL_law_340 : decode cL_law 340 = .ok (.iadd, 1) := by decide +kernel
theorem dL_law_341 : decode cL_law 341 = .ok (.iaload, 1) := by decide +kernel
theorem dL_law_342 : decode cL_law 342 = .ok (.aload_n 0, 1) := by decide +kernel
theorem dL_law_343 : decode cL_law 343 = .ok (.iload 5, 2) := by decide +kernel
theorem dL_law_345 : decode cL_law 345 = .ok (.iconst 2, 1) := by decide +kernel
theorem dL_law_346 : decode cL_law 346 = .ok (.iadd, 1) := by decide +kernel
theorem dL_law_347 : decode cL_law 347 = .ok (.iaload, 1) := by decide +kernel
theorem dL_law_348 : decode cL_law 348 = .ok (.ifCond .eq 7, 3) := by decide +kernel
theorem dL_law_351 : decode cL_law 351 = .ok (.iconst 1, 1) := by decide +kernel
theorem dL_law_352 : decode cL_law 352 = .ok (.goto 4, 3) := by decide +kernel
theorem dL_law_355 : decode cL_law 355 = .ok (.iconst 0, 1) := by decide +kernel
theorem dL_law_356 : decode cL_law 356 = .ok (.invokevirtual 145, 3) := by decide +kernel
theorem dL_law_359 : decode cL_law 359 = .ok (.istore 7, 2) := by decide +kernel
theorem dL_law_361 : decode cL_law 361 = .ok (.aload_n 2, 1) := by decide +kernel
theorem dL_law_362 : decode cL_law 362 = .ok (.invokevirtual 139, 3) := by decide +kernel
theorem dL_law_365 : decode cL_law 365 = .ok (.iload 6, 2) := by decide +kernel
theorem dL_law_367 : decode cL_law 367 = .ok (.if_icmp .eq 5, 3) := by decide +kernel
theorem dL_law_370 : decode cL_law 370 = .ok (.iconst 0, 1) := by decide +kernel
theorem dL_law_371 : decode cL_law 371 = .ok (.ireturn, 1) := by decide +kernel
theorem dL_law_372 : decode cL_law 372 = .ok (.iload 6, 2) := by decide +kernel
theorem dL_law_374 : decode cL_law 374 = .ok (.ifCond .ne 22, 3) := by decide +kernel
theorem dL_law_377 : decode cL_law 377 = .ok (.aload_n 3, 1) := by decide +kernel
theorem dL_law_378 : decode cL_law 378 = .ok (.iconst 0, 1) := by decide +kernel
theorem dL_law_379 : decode cL_law 379 = .ok (.laload, 1) := by decide +kernel
theorem dL_law_380 : decode cL_law 380 = .ok (.iload 7, 2) := by decide +kernel
theorem dL_law_382 : decode cL_law 382 = .ok (.ifCond .eq 7, 3) := by decide +kernel
theorem dL_law_385 : decode cL_law 385 = .ok (.lconst 1, 1) := by decide +kernel
theorem dL_law_386 : decode cL_law 386 = .ok (.goto 4, 3) := by decide +kernel
theorem dL_law_389 : decode cL_law 389 = .ok (.lconst 0, 1) := by decide +kernel
theorem dL_law_390 : decode cL_law 390 = .ok (.lcmp, 1) := by decide +kernel
theorem dL_law_391 : decode cL_law 391 = .ok (.ifCond .eq 5, 3) := by decide +kernel
theorem dL_law_394 : decode cL_law 394 = .ok (.iconst 0, 1) := by decide +kernel
theorem dL_law_395 : decode cL_law 395 = .ok (.ireturn, 1) := by decide +kernel
theorem dL_law_396 : decode cL_law 396 = .ok (.goto 2019, 3) := by decide +kernel
theorem dL_law_399 : decode cL_law 399 = .ok (.aload_n 1, 1) := by decide +kernel
theorem dL_law_400 : decode cL_law 400 = .ok (.aload_n 0, 1) := by decide +kernel
theorem dL_law_401 : decode cL_law 401 = .ok (.iload 5, 2) := by decide +kernel
theorem dL_law_403 : decode cL_law 403 = .ok (.iconst 1, 1) := by decide +kernel
theorem dL_law_404 : decode cL_law 404 = .ok (.iadd, 1) := by decide +kernel
theorem dL_law_405 : decode cL_law 405 = .ok (.iaload, 1) := by decide +kernel
theorem dL_law_406 : decode cL_law 406 = .ok (.aload_n 0, 1) := by decide +kernel
theorem dL_law_407 : decode cL_law 407 = .ok (.iload 5, 2) := by decide +kernel
theorem dL_law_409 : decode cL_law 409 = .ok (.iconst 2, 1) := by decide +kernel
theorem dL_law_410 : decode cL_law 410 = .ok (.iadd, 1) := by decide +kernel
theorem dL_law_411 : decode cL_law 411 = .ok (.iaload, 1) := by decide +kernel
theorem dL_law_412 : decode cL_law 412 = .ok (.aload_n 3, 1) := by decide +kernel
theorem dL_law_413 : decode cL_law 413 = .ok (.invokestatic 146, 3) := by decide +kernel
theorem dL_law_416 : decode cL_law 416 = .ok (.istore 6, 2) := by decide +kernel
theorem dL_law_418 : decode cL_law 418 = .ok (.aload_n 2, 1) := by decide +kernel
theorem dL_law_419 : decode cL_law 419 = .ok (.aload_n 0, 1) := by decide +kernel
theorem dL_law_420 : decode cL_law 420 = .ok (.iload 5, 2) := by decide +kernel
theorem dL_law_422 : decode cL_law 422 = .ok (.iconst 1, 1) := by decide +kernel
theorem dL_law_423 : decode cL_law 423 = .ok (.iadd, 1) := by decide +kernel
theorem dL_law_424 : decode cL_law 424 = .ok (.iaload, 1) := by decide +kernel
theorem dL_law_425 : decode cL_law 425 = .ok (.aload_n 0, 1) := by decide +kernel
theorem dL_law_426 : decode cL_law 426 = .ok (.iload 5, 2) := by decide +kernel
theorem dL_law_428 : decode cL_law 428 = .ok (.iconst 2, 1) := by decide +kernel
theorem dL_law_429 : decode cL_law 429 = .ok (.iadd, 1) := by decide +kernel
theorem dL_law_430 : decode cL_law 430 = .ok (.iaload, 1) := by decide +kernel
theorem dL_law_431 : decode cL_law 431 = .ok (.invokevirtual 149, 3) := by decide +kernel
theorem dL_law_434 : decode cL_law 434 = .ok (.istore 7, 2) := by decide +kernel
theorem dL_law_436 : decode cL_law 436 = .ok (.aload_n 2, 1) := by decide +kernel
theorem dL_law_437 : decode cL_law 437 = .ok (.invokevirtual 139, 3) := by decide +kernel
theorem dL_law_440 : decode cL_law 440 = .ok (.iload 6, 2) := by decide +kernel
theorem dL_law_442 : decode cL_law 442 = .ok (.if_icmp .eq 5, 3) := by decide +kernel
theorem dL_law_445 : decode cL_law 445 = .ok (.iconst 0, 1) := by decide +kernel
theorem dL_law_446 : decode cL_law 446 = .ok (.ireturn, 1) := by decide +kernel
theorem dL_law_447 : decode cL_law 447 = .ok (.iload 6, 2) := by decide +kernel
theorem dL_law_449 : decode cL_law 449 = .ok (.ifCond .ne 15, 3) := by decide +kernel
theorem dL_law_452 : decode cL_law 452 = .ok (.aload_n 3, 1) := by decide +kernel
theorem dL_law_453 : decode cL_law 453 = .ok (.iconst 0, 1) := by decide +kernel
theorem dL_law_454 : decode cL_law 454 = .ok (.laload, 1) := by decide +kernel
theorem dL_law_455 : decode cL_law 455 = .ok (.iload 7, 2) := by decide +kernel
theorem dL_law_457 : decode cL_law 457 = .ok (.i2l, 1) := by decide +kernel
theorem dL_law_458 : decode cL_law 458 = .ok (.lcmp, 1) := by decide +kernel
theorem dL_law_459 : decode cL_law 459 = .ok (.ifCond .eq 5, 3) := by decide +kernel
theorem dL_law_462 : decode cL_law 462 = .ok (.iconst 0, 1) := by decide +kernel
theorem dL_law_463 : decode cL_law 463 = .ok (.ireturn, 1) := by decide +kernel
theorem dL_law_464 : decode cL_law 464 = .ok (.goto 1951, 3) := by decide +kernel
theorem dL_law_467 : decode cL_law 467 = .ok (.aload_n 1, 1) := by decide +kernel
theorem dL_law_468 : decode cL_law 468 = .ok (.aload_n 0, 1) := by decide +kernel
theorem dL_law_469 : decode cL_law 469 = .ok (.iload 5, 2) := by decide +kernel
theorem dL_law_471 : decode cL_law 471 = .ok (.iconst 1, 1) := by decide +kernel
theorem dL_law_472 : decode cL_law 472 = .ok (.iadd, 1) := by decide +kernel
theorem dL_law_473 : decode cL_law 473 = .ok (.iaload, 1) := by decide +kernel
theorem dL_law_474 : decode cL_law 474 = .ok (.aload_n 3, 1) := by decide +kernel
theorem dL_law_475 : decode cL_law 475 = .ok (.invokestatic 150, 3) := by decide +kernel
theorem dL_law_478 : decode cL_law 478 = .ok (.istore 6, 2) := by decide +kernel
theorem dL_law_480 : decode cL_law 480 = .ok (.aload_n 2, 1) := by decide +kernel
theorem dL_law_481 : decode cL_law 481 = .ok (.aload_n 0, 1) := by decide +kernel
theorem dL_law_482 : decode cL_law 482 = .ok (.iload 5, 2) := by decide +kernel
theorem dL_law_484 : decode cL_law 484 = .ok (.iconst 1, 1) := by decide +kernel
theorem dL_law_485 : decode cL_law 485 = .ok (.iadd, 1) := by decide +kernel
theorem dL_law_486 : decode cL_law 486 = .ok (.iaload, 1) := by decide +kernel
theorem dL_law_487 : decode cL_law 487 = .ok (.invokevirtual 153, 3) := by decide +kernel
theorem dL_law_490 : decode cL_law 490 = .ok (.istore 7, 2) := by decide +kernel
theorem dL_law_492 : decode cL_law 492 = .ok (.aload_n 2, 1) := by decide +kernel
theorem dL_law_493 : decode cL_law 493 = .ok (.invokevirtual 139, 3) := by decide +kernel
theorem dL_law_496 : decode cL_law 496 = .ok (.iload 6, 2) := by decide +kernel
theorem dL_law_498 : decode cL_law 498 = .ok (.if_icmp .eq 5, 3) := by decide +kernel
theorem dL_law_501 : decode cL_law 501 = .ok (.iconst 0, 1) := by decide +kernel
theorem dL_law_502 : decode cL_law 502 = .ok (.ireturn, 1) := by decide +kernel
theorem dL_law_503 : decode cL_law 503 = .ok (.iload 6, 2) := by decide +kernel
theorem dL_law_505 : decode cL_law 505 = .ok (.ifCond .ne 15, 3) := by decide +kernel
theorem dL_law_508 : decode cL_law 508 = .ok (.aload_n 3, 1) := by decide +kernel
theorem dL_law_509 : decode cL_law 509 = .ok (.iconst 0, 1) := by decide +kernel
theorem dL_law_510 : decode cL_law 510 = .ok (.laload, 1) := by decide +kernel
theorem dL_law_511 : decode cL_law 511 = .ok (.iload 7, 2) := by decide +kernel
theorem dL_law_513 : decode cL_law 513 = .ok (.i2l, 1) := by decide +kernel
theorem dL_law_514 : decode cL_law 514 = .ok (.lcmp, 1) := by decide +kernel
theorem dL_law_515 : decode cL_law 515 = .ok (.ifCond .eq 5, 3) := by decide +kernel
theorem dL_law_518 : decode cL_law 518 = .ok (.iconst 0, 1) := by decide +kernel
theorem dL_law_519 : decode cL_law 519 = .ok (.ireturn, 1) := by decide +kernel
theorem dL_law_520 : decode cL_law 520 = .ok (.goto 1895, 3) := by decide +kernel
theorem dL_law_523 : decode cL_law 523 = .ok (.aload_n 1, 1) := by decide +kernel
theorem dL_law_524 : decode cL_law 524 = .ok (.aload_n 0, 1) := by decide +kernel
theorem dL_law_525 : decode cL_law 525 = .ok (.iload 5, 2) := by decide +kernel
theorem dL_law_527 : decode cL_law 527 = .ok (.iconst 1, 1) := by decide +kernel
theorem dL_law_528 : decode cL_law 528 = .ok (.iadd, 1) := by decide +kernel
theorem dL_law_529 : decode cL_law 529 = .ok (.iaload, 1) := by decide +kernel
theorem dL_law_530 : decode cL_law 530 = .ok (.aload_n 0, 1) := by decide +kernel
theorem dL_law_531 : decode cL_law 531 = .ok (.iload 5, 2) := by decide +kernel
theorem dL_law_533 : decode cL_law 533 = .ok (.iconst 2, 1) := by decide +kernel
theorem dL_law_534 : decode cL_law 534 = .ok (.iadd, 1) := by decide +kernel
theorem dL_law_535 : decode cL_law 535 = .ok (.iaload, 1) := by decide +kernel
theorem dL_law_536 : decode cL_law 536 = .ok (.aload_n 3, 1) := by decide +kernel
theorem dL_law_537 : decode cL_law 537 = .ok (.invokestatic 154, 3) := by decide +kernel
theorem dL_law_540 : decode cL_law 540 = .ok (.istore 6, 2) := by decide +kernel
theorem dL_law_542 : decode cL_law 542 = .ok (.aload_n 2, 1) := by decide +kernel
theorem dL_law_543 : decode cL_law 543 = .ok (.aload_n 0, 1) := by decide +kernel
theorem dL_law_544 : decode cL_law 544 = .ok (.iload 5, 2) := by decide +kernel
theorem dL_law_546 : decode cL_law 546 = .ok (.iconst 1, 1) := by decide +kernel
theorem dL_law_547 : decode cL_law 547 = .ok (.iadd, 1) := by decide +kernel
theorem dL_law_548 : decode cL_law 548 = .ok (.iaload, 1) := by decide +kernel
theorem dL_law_549 : decode cL_law 549 = .ok (.aload_n 0, 1) := by decide +kernel
theorem dL_law_550 : decode cL_law 550 = .ok (.iload 5, 2) := by decide +kernel
theorem dL_law_552 : decode cL_law 552 = .ok (.iconst 2, 1) := by decide +kernel
theorem dL_law_553 : decode cL_law 553 = .ok (.iadd, 1) := by decide +kernel
theorem dL_law_554 : decode cL_law 554 = .ok (.iaload, 1) := by decide +kernel
theorem dL_law_555 : decode cL_law 555 = .ok (.invokevirtual 156, 3) := by decide +kernel
theorem dL_law_558 : decode cL_law 558 = .ok (.istore 7, 2) := by decide +kernel
theorem dL_law_560 : decode cL_law 560 = .ok (.aload_n 2, 1) := by decide +kernel
theorem dL_law_561 : decode cL_law 561 = .ok (.invokevirtual 139, 3) := by decide +kernel
theorem dL_law_564 : decode cL_law 564 = .ok (.iload 6, 2) := by decide +kernel
theorem dL_law_566 : decode cL_law 566 = .ok (.if_icmp .eq 5, 3) := by decide +kernel
theorem dL_law_569 : decode cL_law 569 = .ok (.iconst 0, 1) := by decide +kernel
theorem dL_law_570 : decode cL_law 570 = .ok (.ireturn, 1) := by decide +kernel
theorem dL_law_571 : decode cL_law 571 = .ok (.iload 6, 2) := by decide +kernel
theorem dL_law_573 : decode cL_law 573 = .ok (.ifCond .ne 15, 3) := by decide +kernel
theorem dL_law_576 : decode cL_law 576 = .ok (.aload_n 3, 1) := by decide +kernel
theorem dL_law_577 : decode cL_law 577 = .ok (.iconst 0, 1) := by decide +kernel
theorem dL_law_578 : decode cL_law 578 = .ok (.laload, 1) := by decide +kernel
theorem dL_law_579 : decode cL_law 579 = .ok (.iload 7, 2) := by decide +kernel
theorem dL_law_581 : decode cL_law 581 = .ok (.i2l, 1) := by decide +kernel
theorem dL_law_582 : decode cL_law 582 = .ok (.lcmp, 1) := by decide +kernel
theorem dL_law_583 : decode cL_law 583 = .ok (.ifCond .eq 5, 3) := by decide +kernel
theorem dL_law_586 : decode cL_law 586 = .ok (.iconst 0, 1) := by decide +kernel
theorem dL_law_587 : decode cL_law 587 = .ok (.ireturn, 1) := by decide +kernel
theorem dL_law_588 : decode cL_law 588 = .ok (.goto 1827, 3) := by decide +kernel
theorem dL_law_591 : decode cL_law 591 = .ok (.aload_n 1, 1) := by decide +kernel
theorem dL_law_592 : decode cL_law 592 = .ok (.aload_n 0, 1) := by decide +kernel
theorem dL_law_593 : decode cL_law 593 = .ok (.iload 5, 2) := by decide +kernel
theorem dL_law_595 : decode cL_law 595 = .ok (.iconst 1, 1) := by decide +kernel
theorem dL_law_596 : decode cL_law 596 = .ok (.iadd, 1) := by decide +kernel
theorem dL_law_597 : decode cL_law 597 = .ok (.iaload, 1) := by decide +kernel
theorem dL_law_598 : decode cL_law 598 = .ok (.aload_n 0, 1) := by decide +kernel
theorem dL_law_599 : decode cL_law 599 = .ok (.iload 5, 2) := by decide +kernel
theorem dL_law_601 : decode cL_law 601 = .ok (.iconst 2, 1) := by decide +kernel
theorem dL_law_602 : decode cL_law 602 = .ok (.iadd, 1) := by decide +kernel
theorem dL_law_603 : decode cL_law 603 = .ok (.iaload, 1) := by decide +kernel
theorem dL_law_604 : decode cL_law 604 = .ok (.aload_n 3, 1) := by decide +kernel
theorem dL_law_605 : decode cL_law 605 = .ok (.invokestatic 157, 3) := by decide +kernel
theorem dL_law_608 : decode cL_law 608 = .ok (.istore 6, 2) := by decide +kernel
theorem dL_law_610 : decode cL_law 610 = .ok (.aload_n 2, 1) := by decide +kernel
theorem dL_law_611 : decode cL_law 611 = .ok (.aload_n 0, 1) := by decide +kernel
theorem dL_law_612 : decode cL_law 612 = .ok (.iload 5, 2) := by decide +kernel
theorem dL_law_614 : decode cL_law 614 = .ok (.iconst 1, 1) := by decide +kernel
theorem dL_law_615 : decode cL_law 615 = .ok (.iadd, 1) := by decide +kernel
theorem dL_law_616 : decode cL_law 616 = .ok (.iaload, 1) := by decide +kernel
theorem dL_law_617 : decode cL_law 617 = .ok (.aload_n 0, 1) := by decide +kernel
theorem dL_law_618 : decode cL_law 618 = .ok (.iload 5, 2) := by decide +kernel
theorem dL_law_620 : decode cL_law 620 = .ok (.iconst 2, 1) := by decide +kernel
theorem dL_law_621 : decode cL_law 621 = .ok (.iadd, 1) := by decide +kernel
theorem dL_law_622 : decode cL_law 622 = .ok (.iaload, 1) := by decide +kernel
theorem dL_law_623 : decode cL_law 623 = .ok (.invokevirtual 159, 3) := by decide +kernel
theorem dL_law_626 : decode cL_law 626 = .ok (.istore 7, 2) := by decide +kernel
theorem dL_law_628 : decode cL_law 628 = .ok (.aload_n 2, 1) := by decide +kernel
theorem dL_law_629 : decode cL_law 629 = .ok (.invokevirtual 139, 3) := by decide +kernel
theorem dL_law_632 : decode cL_law 632 = .ok (.iload 6, 2) := by decide +kernel
theorem dL_law_634 : decode cL_law 634 = .ok (.if_icmp .eq 5, 3) := by decide +kernel
theorem dL_law_637 : decode cL_law 637 = .ok (.iconst 0, 1) := by decide +kernel
theorem dL_law_638 : decode cL_law 638 = .ok (.ireturn, 1) := by decide +kernel
theorem dL_law_639 : decode cL_law 639 = .ok (.iload 6, 2) := by decide +kernel
theorem dL_law_641 : decode cL_law 641 = .ok (.ifCond .ne 15, 3) := by decide +kernel
theorem dL_law_644 : decode cL_law 644 = .ok (.aload_n 3, 1) := by decide +kernel
theorem dL_law_645 : decode cL_law 645 = .ok (.iconst 0, 1) := by decide +kernel
theorem dL_law_646 : decode cL_law 646 = .ok (.laload, 1) := by decide +kernel
theorem dL_law_647 : decode cL_law 647 = .ok (.iload 7, 2) := by decide +kernel
theorem dL_law_649 : decode cL_law 649 = .ok (.i2l, 1) := by decide +kernel
theorem dL_law_650 : decode cL_law 650 = .ok (.lcmp, 1) := by decide +kernel
theorem dL_law_651 : decode cL_law 651 = .ok (.ifCond .eq 5, 3) := by decide +kernel
theorem dL_law_654 : decode cL_law 654 = .ok (.iconst 0, 1) := by decide +kernel
theorem dL_law_655 : decode cL_law 655 = .ok (.ireturn, 1) := by decide +kernel
theorem dL_law_656 : decode cL_law 656 = .ok (.goto 1759, 3) := by decide +kernel
theorem dL_law_659 : decode cL_law 659 = .ok (.aload_n 1, 1) := by decide +kernel
theorem dL_law_660 : decode cL_law 660 = .ok (.aload_n 0, 1) := by decide +kernel
theorem dL_law_661 : decode cL_law 661 = .ok (.iload 5, 2) := by decide +kernel
theorem dL_law_663 : decode cL_law 663 = .ok (.iconst 1, 1) := by decide +kernel
theorem dL_law_664 : decode cL_law 664 = .ok (.iadd, 1) := by decide +kernel
theorem dL_law_665 : decode cL_law 665 = .ok (.iaload, 1) := by decide +kernel
theorem dL_law_666 : decode cL_law 666 = .ok (.aload_n 3, 1) := by decide +kernel
theorem dL_law_667 : decode cL_law 667 = .ok (.invokestatic 160, 3) := by decide +kernel
theorem dL_law_670 : decode cL_law 670 = .ok (.istore 6, 2) := by decide +kernel
theorem dL_law_672 : decode cL_law 672 = .ok (.aload_n 2, 1) := by decide +kernel
theorem dL_law_673 : decode cL_law 673 = .ok (.aload_n 0, 1) := by decide +kernel
theorem dL_law_674 : decode cL_law 674 = .ok (.iload 5, 2) := by decide +kernel
theorem dL_law_676 : decode cL_law 676 = .ok (.iconst 1, 1) := by decide +kernel
theorem dL_law_677 : decode cL_law 677 = .ok (.iadd, 1) := by decide +kernel
theorem dL_law_678 : decode cL_law 678 = .ok (.iaload, 1) := by decide +kernel
theorem dL_law_679 : decode cL_law 679 = .ok (.invokevirtual 162, 3) := by decide +kernel
theorem dL_law_682 : decode cL_law 682 = .ok (.istore 7, 2) := by decide +kernel
theorem dL_law_684 : decode cL_law 684 = .ok (.aload_n 2, 1) := by decide +kernel
theorem dL_law_685 : decode cL_law 685 = .ok (.invokevirtual 139, 3) := by decide +kernel
theorem dL_law_688 : decode cL_law 688 = .ok (.iload 6, 2) := by decide +kernel
theorem dL_law_690 : decode cL_law 690 = .ok (.if_icmp .eq 5, 3) := by decide +kernel
theorem dL_law_693 : decode cL_law 693 = .ok (.iconst 0, 1) := by decide +kernel
theorem dL_law_694 : decode cL_law 694 = .ok (.ireturn, 1) := by decide +kernel
theorem dL_law_695 : decode cL_law 695 = .ok (.iload 6, 2) := by decide +kernel
theorem dL_law_697 : decode cL_law 697 = .ok (.ifCond .ne 15, 3) := by decide +kernel
theorem dL_law_700 : decode cL_law 700 = .ok (.aload_n 3, 1) := by decide +kernel
theorem dL_law_701 : decode cL_law 701 = .ok (.iconst 0, 1) := by decide +kernel
theorem dL_law_702 : decode cL_law 702 = .ok (.laload, 1) := by decide +kernel
theorem dL_law_703 : decode cL_law 703 = .ok (.iload 7, 2) := by decide +kernel
theorem dL_law_705 : decode cL_law 705 = .ok (.i2l, 1) := by decide +kernel
theorem dL_law_706 : decode cL_law 706 = .ok (.lcmp, 1) := by decide +kernel
theorem dL_law_707 : decode cL_law 707 = .ok (.ifCond .eq 5, 3) := by decide +kernel
theorem dL_law_710 : decode cL_law 710 = .ok (.iconst 0, 1) := by decide +kernel
theorem dL_law_711 : decode cL_law 711 = .ok (.ireturn, 1) := by decide +kernel
theorem dL_law_712 : decode cL_law 712 = .ok (.goto 1703, 3) := by decide +kernel
theorem dL_law_715 : decode cL_law 715 = .ok (.aload_n 1, 1) := by decide +kernel
theorem dL_law_716 : decode cL_law 716 = .ok (.aload_n 0, 1) := by decide +kernel
theorem dL_law_717 : decode cL_law 717 = .ok (.iload 5, 2) := by decide +kernel
theorem dL_law_719 : decode cL_law 719 = .ok (.iconst 1, 1) := by decide +kernel
theorem dL_law_720 : decode cL_law 720 = .ok (.iadd, 1) := by decide +kernel
theorem dL_law_721 : decode cL_law 721 = .ok (.iaload, 1) := by decide +kernel
theorem dL_law_722 : decode cL_law 722 = .ok (.aload_n 0, 1) := by decide +kernel
theorem dL_law_723 : decode cL_law 723 = .ok (.iload 5, 2) := by decide +kernel
theorem dL_law_725 : decode cL_law 725 = .ok (.iconst 2, 1) := by decide +kernel
theorem dL_law_726 : decode cL_law 726 = .ok (.iadd, 1) := by decide +kernel
theorem dL_law_727 : decode cL_law 727 = .ok (.iaload, 1) := by decide +kernel
theorem dL_law_728 : decode cL_law 728 = .ok (.aload_n 0, 1) := by decide +kernel
theorem dL_law_729 : decode cL_law 729 = .ok (.iload 5, 2) := by decide +kernel
theorem dL_law_731 : decode cL_law 731 = .ok (.iconst 3, 1) := by decide +kernel
theorem dL_law_732 : decode cL_law 732 = .ok (.iadd, 1) := by decide +kernel
theorem dL_law_733 : decode cL_law 733 = .ok (.iaload, 1) := by decide +kernel
theorem dL_law_734 : decode cL_law 734 = .ok (.aload_n 3, 1) := by decide +kernel
theorem dL_law_735 : decode cL_law 735 = .ok (.invokestatic 163, 3) := by decide +kernel
theorem dL_law_738 : decode cL_law 738 = .ok (.istore 6, 2) := by decide +kernel
theorem dL_law_740 : decode cL_law 740 = .ok (.aload_n 2, 1) := by decide +kernel
theorem dL_law_741 : decode cL_law 741 = .ok (.aload_n 0, 1) := by decide +kernel
theorem dL_law_742 : decode cL_law 742 = .ok (.iload 5, 2) := by decide +kernel
theorem dL_law_744 : decode cL_law 744 = .ok (.iconst 1, 1) := by decide +kernel
theorem dL_law_745 : decode cL_law 745 = .ok (.iadd, 1) := by decide +kernel
theorem dL_law_746 : decode cL_law 746 = .ok (.iaload, 1) := by decide +kernel
theorem dL_law_747 : decode cL_law 747 = .ok (.aload_n 0, 1) := by decide +kernel
theorem dL_law_748 : decode cL_law 748 = .ok (.iload 5, 2) := by decide +kernel
theorem dL_law_750 : decode cL_law 750 = .ok (.iconst 2, 1) := by decide +kernel
theorem dL_law_751 : decode cL_law 751 = .ok (.iadd, 1) := by decide +kernel
theorem dL_law_752 : decode cL_law 752 = .ok (.iaload, 1) := by decide +kernel
theorem dL_law_753 : decode cL_law 753 = .ok (.aload_n 0, 1) := by decide +kernel
theorem dL_law_754 : decode cL_law 754 = .ok (.iload 5, 2) := by decide +kernel
theorem dL_law_756 : decode cL_law 756 = .ok (.iconst 3, 1) := by decide +kernel
theorem dL_law_757 : decode cL_law 757 = .ok (.iadd, 1) := by decide +kernel
theorem dL_law_758 : decode cL_law 758 = .ok (.iaload, 1) := by decide +kernel
theorem dL_law_759 : decode cL_law 759 = .ok (.invokevirtual 166, 3) := by decide +kernel
theorem dL_law_762 : decode cL_law 762 = .ok (.istore 7, 2) := by decide +kernel
theorem dL_law_764 : decode cL_law 764 = .ok (.aload_n 2, 1) := by decide +kernel
theorem dL_law_765 : decode cL_law 765 = .ok (.invokevirtual 139, 3) := by decide +kernel
theorem dL_law_768 : decode cL_law 768 = .ok (.iload 6, 2) := by decide +kernel
theorem dL_law_770 : decode cL_law 770 = .ok (.if_icmp .eq 5, 3) := by decide +kernel
theorem dL_law_773 : decode cL_law 773 = .ok (.iconst 0, 1) := by decide +kernel
theorem dL_law_774 : decode cL_law 774 = .ok (.ireturn, 1) := by decide +kernel
theorem dL_law_775 : decode cL_law 775 = .ok (.iload 6, 2) := by decide +kernel
theorem dL_law_777 : decode cL_law 777 = .ok (.ifCond .ne 15, 3) := by decide +kernel
theorem dL_law_780 : decode cL_law 780 = .ok (.aload_n 3, 1) := by decide +kernel
theorem dL_law_781 : decode cL_law 781 = .ok (.iconst 0, 1) := by decide +kernel
theorem dL_law_782 : decode cL_law 782 = .ok (.laload, 1) := by decide +kernel
theorem dL_law_783 : decode cL_law 783 = .ok (.iload 7, 2) := by decide +kernel
theorem dL_law_785 : decode cL_law 785 = .ok (.i2l, 1) := by decide +kernel
theorem dL_law_786 : decode cL_law 786 = .ok (.lcmp, 1) := by decide +kernel
theorem dL_law_787 : decode cL_law 787 = .ok (.ifCond .eq 5, 3) := by decide +kernel
theorem dL_law_790 : decode cL_law 790 = .ok (.iconst 0, 1) := by decide +kernel
theorem dL_law_791 : decode cL_law 791 = .ok (.ireturn, 1) := by decide +kernel
theorem dL_law_792 : decode cL_law 792 = .ok (.goto 1623, 3) := by decide +kernel
theorem dL_law_795 : decode cL_law 795 = .ok (.aload_n 1, 1) := by decide +kernel
theorem dL_law_796 : decode cL_law 796 = .ok (.aload_n 0, 1) := by decide +kernel
theorem dL_law_797 : decode cL_law 797 = .ok (.iload 5, 2) := by decide +kernel
theorem dL_law_799 : decode cL_law 799 = .ok (.iconst 1, 1) := by decide +kernel
theorem dL_law_800 : decode cL_law 800 = .ok (.iadd, 1) := by decide +kernel
theorem dL_law_801 : decode cL_law 801 = .ok (.iaload, 1) := by decide +kernel
theorem dL_law_802 : decode cL_law 802 = .ok (.aload_n 0, 1) := by decide +kernel
theorem dL_law_803 : decode cL_law 803 = .ok (.iload 5, 2) := by decide +kernel
theorem dL_law_805 : decode cL_law 805 = .ok (.iconst 2, 1) := by decide +kernel
theorem dL_law_806 : decode cL_law 806 = .ok (.iadd, 1) := by decide +kernel
theorem dL_law_807 : decode cL_law 807 = .ok (.iaload, 1) := by decide +kernel
theorem dL_law_808 : decode cL_law 808 = .ok (.aload_n 3, 1) := by decide +kernel
theorem dL_law_809 : decode cL_law 809 = .ok (.invokestatic 167, 3) := by decide +kernel
theorem dL_law_812 : decode cL_law 812 = .ok (.istore 6, 2) := by decide +kernel
theorem dL_law_814 : decode cL_law 814 = .ok (.aload_n 2, 1) := by decide +kernel
theorem dL_law_815 : decode cL_law 815 = .ok (.aload_n 0, 1) := by decide +kernel
theorem dL_law_816 : decode cL_law 816 = .ok (.iload 5, 2) := by decide +kernel
theorem dL_law_818 : decode cL_law 818 = .ok (.iconst 1, 1) := by decide +kernel
theorem dL_law_819 : decode cL_law 819 = .ok (.iadd, 1) := by decide +kernel
theorem dL_law_820 : decode cL_law 820 = .ok (.iaload, 1) := by decide +kernel
theorem dL_law_821 : decode cL_law 821 = .ok (.aload_n 0, 1) := by decide +kernel
theorem dL_law_822 : decode cL_law 822 = .ok (.iload 5, 2) := by decide +kernel
theorem dL_law_824 : decode cL_law 824 = .ok (.iconst 2, 1) := by decide +kernel
theorem dL_law_825 : decode cL_law 825 = .ok (.iadd, 1) := by decide +kernel
theorem dL_law_826 : decode cL_law 826 = .ok (.iaload, 1) := by decide +kernel
theorem dL_law_827 : decode cL_law 827 = .ok (.invokevirtual 169, 3) := by decide +kernel
theorem dL_law_830 : decode cL_law 830 = .ok (.istore 7, 2) := by decide +kernel
theorem dL_law_832 : decode cL_law 832 = .ok (.aload_n 2, 1) := by decide +kernel
theorem dL_law_833 : decode cL_law 833 = .ok (.invokevirtual 139, 3) := by decide +kernel
theorem dL_law_836 : decode cL_law 836 = .ok (.iload 6, 2) := by decide +kernel
theorem dL_law_838 : decode cL_law 838 = .ok (.if_icmp .eq 5, 3) := by decide +kernel
theorem dL_law_841 : decode cL_law 841 = .ok (.iconst 0, 1) := by decide +kernel
theorem dL_law_842 : decode cL_law 842 = .ok (.ireturn, 1) := by decide +kernel
theorem dL_law_843 : decode cL_law 843 = .ok (.iload 6, 2) := by decide +kernel
theorem dL_law_845 : decode cL_law 845 = .ok (.ifCond .ne 15, 3) := by decide +kernel
theorem dL_law_848 : decode cL_law 848 = .ok (.aload_n 3, 1) := by decide +kernel
theorem dL_law_849 : decode cL_law 849 = .ok (.iconst 0, 1) := by decide +kernel
theorem dL_law_850 : decode cL_law 850 = .ok (.laload, 1) := by decide +kernel
theorem dL_law_851 : decode cL_law 851 = .ok (.iload 7, 2) := by decide +kernel
theorem dL_law_853 : decode cL_law 853 = .ok (.i2l, 1) := by decide +kernel
theorem dL_law_854 : decode cL_law 854 = .ok (.lcmp, 1) := by decide +kernel
theorem dL_law_855 : decode cL_law 855 = .ok (.ifCond .eq 5, 3) := by decide +kernel
theorem dL_law_858 : decode cL_law 858 = .ok (.iconst 0, 1) := by decide +kernel
theorem dL_law_859 : decode cL_law 859 = .ok (.ireturn, 1) := by decide +kernel
theorem dL_law_860 : decode cL_law 860 = .ok (.goto 1555, 3) := by decide +kernel
theorem dL_law_863 : decode cL_law 863 = .ok (.aload_n 1, 1) := by decide +kernel
theorem dL_law_864 : decode cL_law 864 = .ok (.aload_n 0, 1) := by decide +kernel
theorem dL_law_865 : decode cL_law 865 = .ok (.iload 5, 2) := by decide +kernel
theorem dL_law_867 : decode cL_law 867 = .ok (.iconst 1, 1) := by decide +kernel
theorem dL_law_868 : decode cL_law 868 = .ok (.iadd, 1) := by decide +kernel
theorem dL_law_869 : decode cL_law 869 = .ok (.iaload, 1) := by decide +kernel
theorem dL_law_870 : decode cL_law 870 = .ok (.aload_n 0, 1) := by decide +kernel
theorem dL_law_871 : decode cL_law 871 = .ok (.iload 5, 2) := by decide +kernel
theorem dL_law_873 : decode cL_law 873 = .ok (.iconst 2, 1) := by decide +kernel
theorem dL_law_874 : decode cL_law 874 = .ok (.iadd, 1) := by decide +kernel
theorem dL_law_875 : decode cL_law 875 = .ok (.iaload, 1) := by decide +kernel
theorem dL_law_876 : decode cL_law 876 = .ok (.ifCond .eq 7, 3) := by decide +kernel
theorem dL_law_879 : decode cL_law 879 = .ok (.iconst 1, 1) := by decide +kernel
theorem dL_law_880 : decode cL_law 880 = .ok (.goto 4, 3) := by decide +kernel
theorem dL_law_883 : decode cL_law 883 = .ok (.iconst 0, 1) := by decide +kernel
theorem dL_law_884 : decode cL_law 884 = .ok (.aload_n 3, 1) := by decide +kernel
theorem dL_law_885 : decode cL_law 885 = .ok (.invokestatic 170, 3) := by decide +kernel
theorem dL_law_888 : decode cL_law 888 = .ok (.istore 6, 2) := by decide +kernel
theorem dL_law_890 : decode cL_law 890 = .ok (.aload_n 2, 1) := by decide +kernel
theorem dL_law_891 : decode cL_law 891 = .ok (.aload_n 0, 1) := by decide +kernel
theorem dL_law_892 : decode cL_law 892 = .ok (.iload 5, 2) := by decide +kernel
theorem dL_law_894 : decode cL_law 894 = .ok (.iconst 1, 1) := by decide +kernel
theorem dL_law_895 : decode cL_law 895 = .ok (.iadd, 1) := by decide +kernel
theorem dL_law_896 : decode cL_law 896 = .ok (.iaload, 1) := by decide +kernel
theorem dL_law_897 : decode cL_law 897 = .ok (.aload_n 0, 1) := by decide +kernel
theorem dL_law_898 : decode cL_law 898 = .ok (.iload 5, 2) := by decide +kernel
theorem dL_law_900 : decode cL_law 900 = .ok (.iconst 2, 1) := by decide +kernel
theorem dL_law_901 : decode cL_law 901 = .ok (.iadd, 1) := by decide +kernel
theorem dL_law_902 : decode cL_law 902 = .ok (.iaload, 1) := by decide +kernel
theorem dL_law_903 : decode cL_law 903 = .ok (.ifCond .eq 7, 3) := by decide +kernel
theorem dL_law_906 : decode cL_law 906 = .ok (.iconst 1, 1) := by decide +kernel
theorem dL_law_907 : decode cL_law 907 = .ok (.goto 4, 3) := by decide +kernel
theorem dL_law_910 : decode cL_law 910 = .ok (.iconst 0, 1) := by decide +kernel
theorem dL_law_911 : decode cL_law 911 = .ok (.invokevirtual 172, 3) := by decide +kernel
theorem dL_law_914 : decode cL_law 914 = .ok (.istore 7, 2) := by decide +kernel
theorem dL_law_916 : decode cL_law 916 = .ok (.aload_n 2, 1) := by decide +kernel
theorem dL_law_917 : decode cL_law 917 = .ok (.invokevirtual 139, 3) := by decide +kernel
theorem dL_law_920 : decode cL_law 920 = .ok (.iload 6, 2) := by decide +kernel
theorem dL_law_922 : decode cL_law 922 = .ok (.if_icmp .eq 5, 3) := by decide +kernel
theorem dL_law_925 : decode cL_law 925 = .ok (.iconst 0, 1) := by decide +kernel
theorem dL_law_926 : decode cL_law 926 = .ok (.ireturn, 1) := by decide +kernel
theorem dL_law_927 : decode cL_law 927 = .ok (.iload 6, 2) := by decide +kernel
theorem dL_law_929 : decode cL_law 929 = .ok (.ifCond .ne 15, 3) := by decide +kernel
theorem dL_law_932 : decode cL_law 932 = .ok (.aload_n 3, 1) := by decide +kernel
theorem dL_law_933 : decode cL_law 933 = .ok (.iconst 0, 1) := by decide +kernel
theorem dL_law_934 : decode cL_law 934 = .ok (.laload, 1) := by decide +kernel
theorem dL_law_935 : decode cL_law 935 = .ok (.iload 7, 2) := by decide +kernel
theorem dL_law_937 : decode cL_law 937 = .ok (.i2l, 1) := by decide +kernel
theorem dL_law_938 : decode cL_law 938 = .ok (.lcmp, 1) := by decide +kernel
theorem dL_law_939 : decode cL_law 939 = .ok (.ifCond .eq 5, 3) := by decide +kernel
theorem dL_law_942 : decode cL_law 942 = .ok (.iconst 0, 1) := by decide +kernel
theorem dL_law_943 : decode cL_law 943 = .ok (.ireturn, 1) := by decide +kernel
theorem dL_law_944 : decode cL_law 944 = .ok (.goto 1471, 3) := by decide +kernel
theorem dL_law_947 : decode cL_law 947 = .ok (.aload_n 1, 1) := by decide +kernel
theorem dL_law_948 : decode cL_law 948 = .ok (.aload_n 0, 1) := by decide +kernel
theorem dL_law_949 : decode cL_law 949 = .ok (.iload 5, 2) := by decide +kernel
theorem dL_law_951 : decode cL_law 951 = .ok (.iconst 1, 1) := by decide +kernel
theorem dL_law_952 : decode cL_law 952 = .ok (.iadd, 1) := by decide +kernel
theorem dL_law_953 : decode cL_law 953 = .ok (.iaload, 1) := by decide +kernel
theorem dL_law_954 : decode cL_law 954 = .ok (.aload_n 3, 1) := by decide +kernel
theorem dL_law_955 : decode cL_law 955 = .ok (.invokestatic 173, 3) := by decide +kernel
theorem dL_law_958 : decode cL_law 958 = .ok (.istore 6, 2) := by decide +kernel
theorem dL_law_960 : decode cL_law 960 = .ok (.aload_n 2, 1) := by decide +kernel
theorem dL_law_961 : decode cL_law 961 = .ok (.aload_n 0, 1) := by decide +kernel
theorem dL_law_962 : decode cL_law 962 = .ok (.iload 5, 2) := by decide +kernel
theorem dL_law_964 : decode cL_law 964 = .ok (.iconst 1, 1) := by decide +kernel
theorem dL_law_965 : decode cL_law 965 = .ok (.iadd, 1) := by decide +kernel
theorem dL_law_966 : decode cL_law 966 = .ok (.iaload, 1) := by decide +kernel
theorem dL_law_967 : decode cL_law 967 = .ok (.invokevirtual 175, 3) := by decide +kernel
theorem dL_law_970 : decode cL_law 970 = .ok (.istore 7, 2) := by decide +kernel
theorem dL_law_972 : decode cL_law 972 = .ok (.aload_n 2, 1) := by decide +kernel
theorem dL_law_973 : decode cL_law 973 = .ok (.invokevirtual 139, 3) := by decide +kernel
theorem dL_law_976 : decode cL_law 976 = .ok (.iload 6, 2) := by decide +kernel
theorem dL_law_978 : decode cL_law 978 = .ok (.if_icmp .eq 5, 3) := by decide +kernel
theorem dL_law_981 : decode cL_law 981 = .ok (.iconst 0, 1) := by decide +kernel
theorem dL_law_982 : decode cL_law 982 = .ok (.ireturn, 1) := by decide +kernel
theorem dL_law_983 : decode cL_law 983 = .ok (.iload 6, 2) := by decide +kernel
theorem dL_law_985 : decode cL_law 985 = .ok (.ifCond .ne 15, 3) := by decide +kernel
theorem dL_law_988 : decode cL_law 988 = .ok (.aload_n 3, 1) := by decide +kernel
theorem dL_law_989 : decode cL_law 989 = .ok (.iconst 0, 1) := by decide +kernel
theorem dL_law_990 : decode cL_law 990 = .ok (.laload, 1) := by decide +kernel
theorem dL_law_991 : decode cL_law 991 = .ok (.iload 7, 2) := by decide +kernel
theorem dL_law_993 : decode cL_law 993 = .ok (.i2l, 1) := by decide +kernel
theorem dL_law_994 : decode cL_law 994 = .ok (.lcmp, 1) := by decide +kernel
theorem dL_law_995 : decode cL_law 995 = .ok (.ifCond .eq 5, 3) := by decide +kernel
theorem dL_law_998 : decode cL_law 998 = .ok (.iconst 0, 1) := by decide +kernel
theorem dL_law_999 : decode cL_law 999 = .ok (.ireturn, 1) := by decide +kernel
theorem dL_law_1000 : decode cL_law 1000 = .ok (.goto 1415, 3) := by decide +kernel
theorem dL_law_1003 : decode cL_law 1003 = .ok (.aload_n 1, 1) := by decide +kernel
theorem dL_law_1004 : decode cL_law 1004 = .ok (.aload_n 0, 1) := by decide +kernel
theorem dL_law_1005 : decode cL_law 1005 = .ok (.iload 5, 2) := by decide +kernel
theorem dL_law_1007 : decode cL_law 1007 = .ok (.iconst 1, 1) := by decide +kernel
theorem dL_law_1008 : decode cL_law 1008 = .ok (.iadd, 1) := by decide +kernel
theorem dL_law_1009 : decode cL_law 1009 = .ok (.iaload, 1) := by decide +kernel
theorem dL_law_1010 : decode cL_law 1010 = .ok (.aload_n 3, 1) := by decide +kernel
theorem dL_law_1011 : decode cL_law 1011 = .ok (.invokestatic 176, 3) := by decide +kernel
theorem dL_law_1014 : decode cL_law 1014 = .ok (.istore 6, 2) := by decide +kernel
theorem dL_law_1016 : decode cL_law 1016 = .ok (.aload_n 2, 1) := by decide +kernel
theorem dL_law_1017 : decode cL_law 1017 = .ok (.aload_n 0, 1) := by decide +kernel
theorem dL_law_1018 : decode cL_law 1018 = .ok (.iload 5, 2) := by decide +kernel
theorem dL_law_1020 : decode cL_law 1020 = .ok (.iconst 1, 1) := by decide +kernel
theorem dL_law_1021 : decode cL_law 1021 = .ok (.iadd, 1) := by decide +kernel
theorem dL_law_1022 : decode cL_law 1022 = .ok (.iaload, 1) := by decide +kernel
theorem dL_law_1023 : decode cL_law 1023 = .ok (.invokevirtual 178, 3) := by decide +kernel
theorem dL_law_1026 : decode cL_law 1026 = .ok (.istore 7, 2) := by decide +kernel
theorem dL_law_1028 : decode cL_law 1028 = .ok (.aload_n 2, 1) := by decide +kernel
theorem dL_law_1029 : decode cL_law 1029 = .ok (.invokevirtual 139, 3) := by decide +kernel
theorem dL_law_1032 : decode cL_law 1032 = .ok (.iload 6, 2) := by decide +kernel
theorem dL_law_1034 : decode cL_law 1034 = .ok (.if_icmp .eq 5, 3) := by decide +kernel
theorem dL_law_1037 : decode cL_law 1037 = .ok (.iconst 0, 1) := by decide +kernel
theorem dL_law_1038 : decode cL_law 1038 = .ok (.ireturn, 1) := by decide +kernel
theorem dL_law_1039 : decode cL_law 1039 = .ok (.iload 6, 2) := by decide +kernel
theorem dL_law_1041 : decode cL_law 1041 = .ok (.ifCond .ne 15, 3) := by decide +kernel
theorem dL_law_1044 : decode cL_law 1044 = .ok (.aload_n 3, 1) := by decide +kernel
theorem dL_law_1045 : decode cL_law 1045 = .ok (.iconst 0, 1) := by decide +kernel
theorem dL_law_1046 : decode cL_law 1046 = .ok (.laload, 1) := by decide +kernel
theorem dL_law_1047 : decode cL_law 1047 = .ok (.iload 7, 2) := by decide +kernel
theorem dL_law_1049 : decode cL_law 1049 = .ok (.i2l, 1) := by decide +kernel
theorem dL_law_1050 : decode cL_law 1050 = .ok (.lcmp, 1) := by decide +kernel
theorem dL_law_1051 : decode cL_law 1051 = .ok (.ifCond .eq 5, 3) := by decide +kernel
theorem dL_law_1054 : decode cL_law 1054 = .ok (.iconst 0, 1) := by decide +kernel
theorem dL_law_1055 : decode cL_law 1055 = .ok (.ireturn, 1) := by decide +kernel
theorem dL_law_1056 : decode cL_law 1056 = .ok (.goto 1359, 3) := by decide +kernel
theorem dL_law_1059 : decode cL_law 1059 = .ok (.aload_n 1, 1) := by decide +kernel
theorem dL_law_1060 : decode cL_law 1060 = .ok (.aload_n 0, 1) := by decide +kernel
theorem dL_law_1061 : decode cL_law 1061 = .ok (.iload 5, 2) := by decide +kernel
theorem dL_law_1063 : decode cL_law 1063 = .ok (.iconst 1, 1) := by decide +kernel
theorem dL_law_1064 : decode cL_law 1064 = .ok (.iadd, 1) := by decide +kernel
theorem dL_law_1065 : decode cL_law 1065 = .ok (.iaload, 1) := by decide +kernel
theorem dL_law_1066 : decode cL_law 1066 = .ok (.aload_n 0, 1) := by decide +kernel
theorem dL_law_1067 : decode cL_law 1067 = .ok (.iload 5, 2) := by decide +kernel
theorem dL_law_1069 : decode cL_law 1069 = .ok (.iconst 2, 1) := by decide +kernel
theorem dL_law_1070 : decode cL_law 1070 = .ok (.iadd, 1) := by decide +kernel
theorem dL_law_1071 : decode cL_law 1071 = .ok (.iaload, 1) := by decide +kernel
theorem dL_law_1072 : decode cL_law 1072 = .ok (.aload_n 0, 1) := by decide +kernel
theorem dL_law_1073 : decode cL_law 1073 = .ok (.iload 5, 2) := by decide +kernel
theorem dL_law_1075 : decode cL_law 1075 = .ok (.iconst 3, 1) := by decide +kernel
theorem dL_law_1076 : decode cL_law 1076 = .ok (.iadd, 1) := by decide +kernel
theorem dL_law_1077 : decode cL_law 1077 = .ok (.iaload, 1) := by decide +kernel
theorem dL_law_1078 : decode cL_law 1078 = .ok (.aload_n 3, 1) := by decide +kernel
theorem dL_law_1079 : decode cL_law 1079 = .ok (.invokestatic 179, 3) := by decide +kernel
theorem dL_law_1082 : decode cL_law 1082 = .ok (.istore 6, 2) := by decide +kernel
theorem dL_law_1084 : decode cL_law 1084 = .ok (.aload_n 2, 1) := by decide +kernel
theorem dL_law_1085 : decode cL_law 1085 = .ok (.aload_n 0, 1) := by decide +kernel
theorem dL_law_1086 : decode cL_law 1086 = .ok (.iload 5, 2) := by decide +kernel
theorem dL_law_1088 : decode cL_law 1088 = .ok (.iconst 1, 1) := by decide +kernel
theorem dL_law_1089 : decode cL_law 1089 = .ok (.iadd, 1) := by decide +kernel
theorem dL_law_1090 : decode cL_law 1090 = .ok (.iaload, 1) := by decide +kernel
theorem dL_law_1091 : decode cL_law 1091 = .ok (.aload_n 0, 1) := by decide +kernel
theorem dL_law_1092 : decode cL_law 1092 = .ok (.iload 5, 2) := by decide +kernel
theorem dL_law_1094 : decode cL_law 1094 = .ok (.iconst 2, 1) := by decide +kernel
theorem dL_law_1095 : decode cL_law 1095 = .ok (.iadd, 1) := by decide +kernel
theorem dL_law_1096 : decode cL_law 1096 = .ok (.iaload, 1) := by decide +kernel
theorem dL_law_1097 : decode cL_law 1097 = .ok (.aload_n 0, 1) := by decide +kernel
theorem dL_law_1098 : decode cL_law 1098 = .ok (.iload 5, 2) := by decide +kernel
theorem dL_law_1100 : decode cL_law 1100 = .ok (.iconst 3, 1) := by decide +kernel
theorem dL_law_1101 : decode cL_law 1101 = .ok (.iadd, 1) := by decide +kernel
theorem dL_law_1102 : decode cL_law 1102 = .ok (.iaload, 1) := by decide +kernel
theorem dL_law_1103 : decode cL_law 1103 = .ok (.invokevirtual 181, 3) := by decide +kernel
theorem dL_law_1106 : decode cL_law 1106 = .ok (.istore 7, 2) := by decide +kernel
theorem dL_law_1108 : decode cL_law 1108 = .ok (.aload_n 2, 1) := by decide +kernel
theorem dL_law_1109 : decode cL_law 1109 = .ok (.invokevirtual 139, 3) := by decide +kernel
theorem dL_law_1112 : decode cL_law 1112 = .ok (.iload 6, 2) := by decide +kernel
theorem dL_law_1114 : decode cL_law 1114 = .ok (.if_icmp .eq 5, 3) := by decide +kernel
theorem dL_law_1117 : decode cL_law 1117 = .ok (.iconst 0, 1) := by decide +kernel
theorem dL_law_1118 : decode cL_law 1118 = .ok (.ireturn, 1) := by decide +kernel
theorem dL_law_1119 : decode cL_law 1119 = .ok (.iload 6, 2) := by decide +kernel
theorem dL_law_1121 : decode cL_law 1121 = .ok (.ifCond .ne 15, 3) := by decide +kernel
theorem dL_law_1124 : decode cL_law 1124 = .ok (.aload_n 3, 1) := by decide +kernel
theorem dL_law_1125 : decode cL_law 1125 = .ok (.iconst 0, 1) := by decide +kernel
theorem dL_law_1126 : decode cL_law 1126 = .ok (.laload, 1) := by decide +kernel
theorem dL_law_1127 : decode cL_law 1127 = .ok (.iload 7, 2) := by decide +kernel
theorem dL_law_1129 : decode cL_law 1129 = .ok (.i2l, 1) := by decide +kernel
theorem dL_law_1130 : decode cL_law 1130 = .ok (.lcmp, 1) := by decide +kernel
theorem dL_law_1131 : decode cL_law 1131 = .ok (.ifCond .eq 5, 3) := by decide +kernel
theorem dL_law_1134 : decode cL_law 1134 = .ok (.iconst 0, 1) := by decide +kernel
theorem dL_law_1135 : decode cL_law 1135 = .ok (.ireturn, 1) := by decide +kernel
theorem dL_law_1136 : decode cL_law 1136 = .ok (.goto 1279, 3) := by decide +kernel
theorem dL_law_1139 : decode cL_law 1139 = .ok (.aload_n 1, 1) := by decide +kernel
theorem dL_law_1140 : decode cL_law 1140 = .ok (.aload_n 0, 1) := by decide +kernel
theorem dL_law_1141 : decode cL_law 1141 = .ok (.iload 5, 2) := by decide +kernel
theorem dL_law_1143 : decode cL_law 1143 = .ok (.iconst 1, 1) := by decide +kernel
theorem dL_law_1144 : decode cL_law 1144 = .ok (.iadd, 1) := by decide +kernel
theorem dL_law_1145 : decode cL_law 1145 = .ok (.iaload, 1) := by decide +kernel
theorem dL_law_1146 : decode cL_law 1146 = .ok (.i2c, 1) := by decide +kernel
theorem dL_law_1147 : decode cL_law 1147 = .ok (.aload_n 0, 1) := by decide +kernel
theorem dL_law_1148 : decode cL_law 1148 = .ok (.iload 5, 2) := by decide +kernel
theorem dL_law_1150 : decode cL_law 1150 = .ok (.iconst 2, 1) := by decide +kernel
theorem dL_law_1151 : decode cL_law 1151 = .ok (.iadd, 1) := by decide +kernel
theorem dL_law_1152 : decode cL_law 1152 = .ok (.iaload, 1) := by decide +kernel
theorem dL_law_1153 : decode cL_law 1153 = .ok (.aload_n 0, 1) := by decide +kernel
theorem dL_law_1154 : decode cL_law 1154 = .ok (.iload 5, 2) := by decide +kernel
theorem dL_law_1156 : decode cL_law 1156 = .ok (.iconst 3, 1) := by decide +kernel
theorem dL_law_1157 : decode cL_law 1157 = .ok (.iadd, 1) := by decide +kernel
theorem dL_law_1158 : decode cL_law 1158 = .ok (.iaload, 1) := by decide +kernel
theorem dL_law_1159 : decode cL_law 1159 = .ok (.aload_n 0, 1) := by decide +kernel
theorem dL_law_1160 : decode cL_law 1160 = .ok (.iload 5, 2) := by decide +kernel
theorem dL_law_1162 : decode cL_law 1162 = .ok (.iconst 4, 1) := by decide +kernel
theorem dL_law_1163 : decode cL_law 1163 = .ok (.iadd, 1) := by decide +kernel
theorem dL_law_1164 : decode cL_law 1164 = .ok (.iaload, 1) := by decide +kernel
theorem dL_law_1165 : decode cL_law 1165 = .ok (.aload_n 0, 1) := by decide +kernel
theorem dL_law_1166 : decode cL_law 1166 = .ok (.iload 5, 2) := by decide +kernel
theorem dL_law_1168 : decode cL_law 1168 = .ok (.iconst 5, 1) := by decide +kernel
theorem dL_law_1169 : decode cL_law 1169 = .ok (.iadd, 1) := by decide +kernel
theorem dL_law_1170 : decode cL_law 1170 = .ok (.iaload, 1) := by decide +kernel
theorem dL_law_1171 : decode cL_law 1171 = .ok (.aload_n 3, 1) := by decide +kernel
theorem dL_law_1172 : decode cL_law 1172 = .ok (.invokestatic 182, 3) := by decide +kernel
theorem dL_law_1175 : decode cL_law 1175 = .ok (.istore 6, 2) := by decide +kernel
theorem dL_law_1177 : decode cL_law 1177 = .ok (.aload_n 2, 1) := by decide +kernel
theorem dL_law_1178 : decode cL_law 1178 = .ok (.aload_n 0, 1) := by decide +kernel
theorem dL_law_1179 : decode cL_law 1179 = .ok (.iload 5, 2) := by decide +kernel
theorem dL_law_1181 : decode cL_law 1181 = .ok (.iconst 1, 1) := by decide +kernel
theorem dL_law_1182 : decode cL_law 1182 = .ok (.iadd, 1) := by decide +kernel
theorem dL_law_1183 : decode cL_law 1183 = .ok (.iaload, 1) := by decide +kernel
theorem dL_law_1184 : decode cL_law 1184 = .ok (.i2c, 1) := by decide +kernel
theorem dL_law_1185 : decode cL_law 1185 = .ok (.aload_n 0, 1) := by decide +kernel
theorem dL_law_1186 : decode cL_law 1186 = .ok (.iload 5, 2) := by decide +kernel
theorem dL_law_1188 : decode cL_law 1188 = .ok (.iconst 2, 1) := by decide +kernel
theorem dL_law_1189 : decode cL_law 1189 = .ok (.iadd, 1) := by decide +kernel
theorem dL_law_1190 : decode cL_law 1190 = .ok (.iaload, 1) := by decide +kernel
theorem dL_law_1191 : decode cL_law 1191 = .ok (.aload_n 0, 1) := by decide +kernel
theorem dL_law_1192 : decode cL_law 1192 = .ok (.iload 5, 2) := by decide +kernel
theorem dL_law_1194 : decode cL_law 1194 = .ok (.iconst 3, 1) := by decide +kernel
theorem dL_law_1195 : decode cL_law 1195 = .ok (.iadd, 1) := by decide +kernel
theorem dL_law_1196 : decode cL_law 1196 = .ok (.iaload, 1) := by decide +kernel
theorem dL_law_1197 : decode cL_law 1197 = .ok (.aload_n 0, 1) := by decide +kernel
theorem dL_law_1198 : decode cL_law 1198 = .ok (.iload 5, 2) := by decide +kernel
theorem dL_law_1200 : decode cL_law 1200 = .ok (.iconst 4, 1) := by decide +kernel
theorem dL_law_1201 : decode cL_law 1201 = .ok (.iadd, 1) := by decide +kernel
theorem dL_law_1202 : decode cL_law 1202 = .ok (.iaload, 1) := by decide +kernel
theorem dL_law_1203 : decode cL_law 1203 = .ok (.aload_n 0, 1) := by decide +kernel
theorem dL_law_1204 : decode cL_law 1204 = .ok (.iload 5, 2) := by decide +kernel
theorem dL_law_1206 : decode cL_law 1206 = .ok (.iconst 5, 1) := by decide +kernel
theorem dL_law_1207 : decode cL_law 1207 = .ok (.iadd, 1) := by decide +kernel
theorem dL_law_1208 : decode cL_law 1208 = .ok (.iaload, 1) := by decide +kernel
theorem dL_law_1209 : decode cL_law 1209 = .ok (.invokevirtual 185, 3) := by decide +kernel
theorem dL_law_1212 : decode cL_law 1212 = .ok (.istore 7, 2) := by decide +kernel
theorem dL_law_1214 : decode cL_law 1214 = .ok (.aload_n 2, 1) := by decide +kernel
theorem dL_law_1215 : decode cL_law 1215 = .ok (.invokevirtual 139, 3) := by decide +kernel
theorem dL_law_1218 : decode cL_law 1218 = .ok (.iload 6, 2) := by decide +kernel
theorem dL_law_1220 : decode cL_law 1220 = .ok (.if_icmp .eq 5, 3) := by decide +kernel
theorem dL_law_1223 : decode cL_law 1223 = .ok (.iconst 0, 1) := by decide +kernel
theorem dL_law_1224 : decode cL_law 1224 = .ok (.ireturn, 1) := by decide +kernel
theorem dL_law_1225 : decode cL_law 1225 = .ok (.iload 6, 2) := by decide +kernel
theorem dL_law_1227 : decode cL_law 1227 = .ok (.ifCond .ne 15, 3) := by decide +kernel
theorem dL_law_1230 : decode cL_law 1230 = .ok (.aload_n 3, 1) := by decide +kernel
theorem dL_law_1231 : decode cL_law 1231 = .ok (.iconst 0, 1) := by decide +kernel
theorem dL_law_1232 : decode cL_law 1232 = .ok (.laload, 1) := by decide +kernel
theorem dL_law_1233 : decode cL_law 1233 = .ok (.iload 7, 2) := by decide +kernel
theorem dL_law_1235 : decode cL_law 1235 = .ok (.i2l, 1) := by decide +kernel
theorem dL_law_1236 : decode cL_law 1236 = .ok (.lcmp, 1) := by decide +kernel
theorem dL_law_1237 : decode cL_law 1237 = .ok (.ifCond .eq 5, 3) := by decide +kernel
theorem dL_law_1240 : decode cL_law 1240 = .ok (.iconst 0, 1) := by decide +kernel
theorem dL_law_1241 : decode cL_law 1241 = .ok (.ireturn, 1) := by decide +kernel
theorem dL_law_1242 : decode cL_law 1242 = .ok (.goto 1173, 3) := by decide +kernel
theorem dL_law_1245 : decode cL_law 1245 = .ok (.aload_n 1, 1) := by decide +kernel
theorem dL_law_1246 : decode cL_law 1246 = .ok (.aload_n 0, 1) := by decide +kernel
theorem dL_law_1247 : decode cL_law 1247 = .ok (.iload 5, 2) := by decide +kernel
theorem dL_law_1249 : decode cL_law 1249 = .ok (.iconst 1, 1) := by decide +kernel
theorem dL_law_1250 : decode cL_law 1250 = .ok (.iadd, 1) := by decide +kernel
theorem dL_law_1251 : decode cL_law 1251 = .ok (.iaload, 1) := by decide +kernel
theorem dL_law_1252 : decode cL_law 1252 = .ok (.aload_n 0, 1) := by decide +kernel
theorem dL_law_1253 : decode cL_law 1253 = .ok (.iload 5, 2) := by decide +kernel
theorem dL_law_1255 : decode cL_law 1255 = .ok (.iconst 2, 1) := by decide +kernel
theorem dL_law_1256 : decode cL_law 1256 = .ok (.iadd, 1) := by decide +kernel
theorem dL_law_1257 : decode cL_law 1257 = .ok (.iaload, 1) := by decide +kernel
theorem dL_law_1258 : decode cL_law 1258 = .ok (.aload_n 3, 1) := by decide +kernel
theorem dL_law_1259 : decode cL_law 1259 = .ok (.invokestatic 186, 3) := by decide +kernel
theorem dL_law_1262 : decode cL_law 1262 = .ok (.istore 6, 2) := by decide +kernel
theorem dL_law_1264 : decode cL_law 1264 = .ok (.aload_n 2, 1) := by decide +kernel
theorem dL_law_1265 : decode cL_law 1265 = .ok (.aload_n 0, 1) := by decide +kernel
theorem dL_law_1266 : decode cL_law 1266 = .ok (.iload 5, 2) := by decide +kernel
theorem dL_law_1268 : decode cL_law 1268 = .ok (.iconst 1, 1) := by decide +kernel
theorem dL_law_1269 : decode cL_law 1269 = .ok (.iadd, 1) := by decide +kernel
theorem dL_law_1270 : decode cL_law 1270 = .ok (.iaload, 1) := by decide +kernel
theorem dL_law_1271 : decode cL_law 1271 = .ok (.aload_n 0, 1) := by decide +kernel
theorem dL_law_1272 : decode cL_law 1272 = .ok (.iload 5, 2) := by decide +kernel
theorem dL_law_1274 : decode cL_law 1274 = .ok (.iconst 2, 1) := by decide +kernel
theorem dL_law_1275 : decode cL_law 1275 = .ok (.iadd, 1) := by decide +kernel
theorem dL_law_1276 : decode cL_law 1276 = .ok (.iaload, 1) := by decide +kernel
theorem dL_law_1277 : decode cL_law 1277 = .ok (.invokevirtual 188, 3) := by decide +kernel
theorem dL_law_1280 : decode cL_law 1280 = .ok (.istore 7, 2) := by decide +kernel
theorem dL_law_1282 : decode cL_law 1282 = .ok (.aload_n 2, 1) := by decide +kernel
theorem dL_law_1283 : decode cL_law 1283 = .ok (.invokevirtual 139, 3) := by decide +kernel
theorem dL_law_1286 : decode cL_law 1286 = .ok (.iload 6, 2) := by decide +kernel
theorem dL_law_1288 : decode cL_law 1288 = .ok (.if_icmp .eq 5, 3) := by decide +kernel
theorem dL_law_1291 : decode cL_law 1291 = .ok (.iconst 0, 1) := by decide +kernel
theorem dL_law_1292 : decode cL_law 1292 = .ok (.ireturn, 1) := by decide +kernel
theorem dL_law_1293 : decode cL_law 1293 = .ok (.iload 6, 2) := by decide +kernel
theorem dL_law_1295 : decode cL_law 1295 = .ok (.ifCond .ne 22, 3) := by decide +kernel
theorem dL_law_1298 : decode cL_law 1298 = .ok (.aload_n 3, 1) := by decide +kernel
theorem dL_law_1299 : decode cL_law 1299 = .ok (.iconst 0, 1) := by decide +kernel
theorem dL_law_1300 : decode cL_law 1300 = .ok (.laload, 1) := by decide +kernel
theorem dL_law_1301 : decode cL_law 1301 = .ok (.iload 7, 2) := by decide +kernel
theorem dL_law_1303 : decode cL_law 1303 = .ok (.ifCond .eq 7, 3) := by decide +kernel
theorem dL_law_1306 : decode cL_law 1306 = .ok (.lconst 1, 1) := by decide +kernel
theorem dL_law_1307 : decode cL_law 1307 = .ok (.goto 4, 3) := by decide +kernel
theorem dL_law_1310 : decode cL_law 1310 = .ok (.lconst 0, 1) := by decide +kernel
theorem dL_law_1311 : decode cL_law 1311 = .ok (.lcmp, 1) := by decide +kernel
theorem dL_law_1312 : decode cL_law 1312 = .ok (.ifCond .eq 5, 3) := by decide +kernel
theorem dL_law_1315 : decode cL_law 1315 = .ok (.iconst 0, 1) := by decide +kernel
theorem dL_law_1316 : decode cL_law 1316 = .ok (.ireturn, 1) := by decide +kernel
theorem dL_law_1317 : decode cL_law 1317 = .ok (.goto 1098, 3) := by decide +kernel
theorem dL_law_1320 : decode cL_law 1320 = .ok (.aload_n 1, 1) := by decide +kernel
theorem dL_law_1321 : decode cL_law 1321 = .ok (.aload_n 0, 1) := by decide +kernel
theorem dL_law_1322 : decode cL_law 1322 = .ok (.iload 5, 2) := by decide +kernel
theorem dL_law_1324 : decode cL_law 1324 = .ok (.iconst 1, 1) := by decide +kernel
theorem dL_law_1325 : decode cL_law 1325 = .ok (.iadd, 1) := by decide +kernel
theorem dL_law_1326 : decode cL_law 1326 = .ok (.iaload, 1) := by decide +kernel
theorem dL_law_1327 : decode cL_law 1327 = .ok (.aload_n 0, 1) := by decide +kernel
theorem dL_law_1328 : decode cL_law 1328 = .ok (.iload 5, 2) := by decide +kernel
theorem dL_law_1330 : decode cL_law 1330 = .ok (.iconst 2, 1) := by decide +kernel
theorem dL_law_1331 : decode cL_law 1331 = .ok (.iadd, 1) := by decide +kernel
theorem dL_law_1332 : decode cL_law 1332 = .ok (.iaload, 1) := by decide +kernel
theorem dL_law_1333 : decode cL_law 1333 = .ok (.aload_n 0, 1) := by decide +kernel
theorem dL_law_1334 : decode cL_law 1334 = .ok (.iload 5, 2) := by decide +kernel
theorem dL_law_1336 : decode cL_law 1336 = .ok (.iconst 3, 1) := by decide +kernel
theorem dL_law_1337 : decode cL_law 1337 = .ok (.iadd, 1) := by decide +kernel
theorem dL_law_1338 : decode cL_law 1338 = .ok (.iaload, 1) := by decide +kernel
theorem dL_law_1339 : decode cL_law 1339 = .ok (.aload_n 3, 1) := by decide +kernel
theorem dL_law_1340 : decode cL_law 1340 = .ok (.invokestatic 189, 3) := by decide +kernel
theorem dL_law_1343 : decode cL_law 1343 = .ok (.istore 6, 2) := by decide +kernel
theorem dL_law_1345 : decode cL_law 1345 = .ok (.aload_n 2, 1) := by decide +kernel
theorem dL_law_1346 : decode cL_law 1346 = .ok (.aload_n 0, 1) := by decide +kernel
theorem dL_law_1347 : decode cL_law 1347 = .ok (.iload 5, 2) := by decide +kernel
theorem dL_law_1349 : decode cL_law 1349 = .ok (.iconst 1, 1) := by decide +kernel
theorem dL_law_1350 : decode cL_law 1350 = .ok (.iadd, 1) := by decide +kernel
theorem dL_law_1351 : decode cL_law 1351 = .ok (.iaload, 1) := by decide +kernel
theorem dL_law_1352 : decode cL_law 1352 = .ok (.aload_n 0, 1) := by decide +kernel
theorem dL_law_1353 : decode cL_law 1353 = .ok (.iload 5, 2) := by decide +kernel
theorem dL_law_1355 : decode cL_law 1355 = .ok (.iconst 2, 1) := by decide +kernel
theorem dL_law_1356 : decode cL_law 1356 = .ok (.iadd, 1) := by decide +kernel
theorem dL_law_1357 : decode cL_law 1357 = .ok (.iaload, 1) := by decide +kernel
theorem dL_law_1358 : decode cL_law 1358 = .ok (.aload_n 0, 1) := by decide +kernel
theorem dL_law_1359 : decode cL_law 1359 = .ok (.iload 5, 2) := by decide +kernel
theorem dL_law_1361 : decode cL_law 1361 = .ok (.iconst 3, 1) := by decide +kernel
theorem dL_law_1362 : decode cL_law 1362 = .ok (.iadd, 1) := by decide +kernel
theorem dL_law_1363 : decode cL_law 1363 = .ok (.iaload, 1) := by decide +kernel
theorem dL_law_1364 : decode cL_law 1364 = .ok (.invokevirtual 191, 3) := by decide +kernel
theorem dL_law_1367 : decode cL_law 1367 = .ok (.istore 7, 2) := by decide +kernel
theorem dL_law_1369 : decode cL_law 1369 = .ok (.aload_n 2, 1) := by decide +kernel
theorem dL_law_1370 : decode cL_law 1370 = .ok (.invokevirtual 139, 3) := by decide +kernel
theorem dL_law_1373 : decode cL_law 1373 = .ok (.iload 6, 2) := by decide +kernel
theorem dL_law_1375 : decode cL_law 1375 = .ok (.if_icmp .eq 5, 3) := by decide +kernel
theorem dL_law_1378 : decode cL_law 1378 = .ok (.iconst 0, 1) := by decide +kernel
theorem dL_law_1379 : decode cL_law 1379 = .ok (.ireturn, 1) := by decide +kernel
theorem dL_law_1380 : decode cL_law 1380 = .ok (.iload 6, 2) := by decide +kernel
theorem dL_law_1382 : decode cL_law 1382 = .ok (.ifCond .ne 22, 3) := by decide +kernel
theorem dL_law_1385 : decode cL_law 1385 = .ok (.aload_n 3, 1) := by decide +kernel
theorem dL_law_1386 : decode cL_law 1386 = .ok (.iconst 0, 1) := by decide +kernel
theorem dL_law_1387 : decode cL_law 1387 = .ok (.laload, 1) := by decide +kernel
theorem dL_law_1388 : decode cL_law 1388 = .ok (.iload 7, 2) := by decide +kernel
theorem dL_law_1390 : decode cL_law 1390 = .ok (.ifCond .eq 7, 3) := by decide +kernel
theorem dL_law_1393 : decode cL_law 1393 = .ok (.lconst 1, 1) := by decide +kernel
theorem dL_law_1394 : decode cL_law 1394 = .ok (.goto 4, 3) := by decide +kernel
theorem dL_law_1397 : decode cL_law 1397 = .ok (.lconst 0, 1) := by decide +kernel
theorem dL_law_1398 : decode cL_law 1398 = .ok (.lcmp, 1) := by decide +kernel
theorem dL_law_1399 : decode cL_law 1399 = .ok (.ifCond .eq 5, 3) := by decide +kernel
theorem dL_law_1402 : decode cL_law 1402 = .ok (.iconst 0, 1) := by decide +kernel
theorem dL_law_1403 : decode cL_law 1403 = .ok (.ireturn, 1) := by decide +kernel
theorem dL_law_1404 : decode cL_law 1404 = .ok (.goto 1011, 3) := by decide +kernel
theorem dL_law_1407 : decode cL_law 1407 = .ok (.aload_n 1, 1) := by decide +kernel
theorem dL_law_1408 : decode cL_law 1408 = .ok (.aload_n 0, 1) := by decide +kernel
theorem dL_law_1409 : decode cL_law 1409 = .ok (.iload 5, 2) := by decide +kernel
theorem dL_law_1411 : decode cL_law 1411 = .ok (.iconst 1, 1) := by decide +kernel
theorem dL_law_1412 : decode cL_law 1412 = .ok (.iadd, 1) := by decide +kernel
theorem dL_law_1413 : decode cL_law 1413 = .ok (.iaload, 1) := by decide +kernel
theorem dL_law_1414 : decode cL_law 1414 = .ok (.aload_n 0, 1) := by decide +kernel
theorem dL_law_1415 : decode cL_law 1415 = .ok (.iload 5, 2) := by decide +kernel
theorem dL_law_1417 : decode cL_law 1417 = .ok (.iconst 2, 1) := by decide +kernel
theorem dL_law_1418 : decode cL_law 1418 = .ok (.iadd, 1) := by decide +kernel
theorem dL_law_1419 : decode cL_law 1419 = .ok (.iaload, 1) := by decide +kernel
theorem dL_law_1420 : decode cL_law 1420 = .ok (.ifCond .eq 7, 3) := by decide +kernel
theorem dL_law_1423 : decode cL_law 1423 = .ok (.iconst 1, 1) := by decide +kernel
theorem dL_law_1424 : decode cL_law 1424 = .ok (.goto 4, 3) := by decide +kernel
theorem dL_law_1427 : decode cL_law 1427 = .ok (.iconst 0, 1) := by decide +kernel
theorem dL_law_1428 : decode cL_law 1428 = .ok (.aload_n 3, 1) := by decide +kernel
theorem dL_law_1429 : decode cL_law 1429 = .ok (.invokestatic 192, 3) := by decide +kernel
theorem dL_law_1432 : decode cL_law 1432 = .ok (.istore 6, 2) := by decide +kernel
theorem dL_law_1434 : decode cL_law 1434 = .ok (.aload_n 2, 1) := by decide +kernel
theorem dL_law_1435 : decode cL_law 1435 = .ok (.aload_n 0, 1) := by decide +kernel
theorem dL_law_1436 : decode cL_law 1436 = .ok (.iload 5, 2) := by decide +kernel
theorem dL_law_1438 : decode cL_law 1438 = .ok (.iconst 1, 1) := by decide +kernel
theorem dL_law_1439 : decode cL_law 1439 = .ok (.iadd, 1) := by decide +kernel
theorem dL_law_1440 : decode cL_law 1440 = .ok (.iaload, 1) := by decide +kernel
theorem dL_law_1441 : decode cL_law 1441 = .ok (.aload_n 0, 1) := by decide +kernel
theorem dL_law_1442 : decode cL_law 1442 = .ok (.iload 5, 2) := by decide +kernel
theorem dL_law_1444 : decode cL_law 1444 = .ok (.iconst 2, 1) := by decide +kernel
theorem dL_law_1445 : decode cL_law 1445 = .ok (.iadd, 1) := by decide +kernel
theorem dL_law_1446 : decode cL_law 1446 = .ok (.iaload, 1) := by decide +kernel
theorem dL_law_1447 : decode cL_law 1447 = .ok (.ifCond .eq 7, 3) := by decide +kernel
theorem dL_law_1450 : decode cL_law 1450 = .ok (.iconst 1, 1) := by decide +kernel
theorem dL_law_1451 : decode cL_law 1451 = .ok (.goto 4, 3) := by decide +kernel
theorem dL_law_1454 : decode cL_law 1454 = .ok (.iconst 0, 1) := by decide +kernel
theorem dL_law_1455 : decode cL_law 1455 = .ok (.invokevirtual 194, 3) := by decide +kernel
theorem dL_law_1458 : decode cL_law 1458 = .ok (.istore 7, 2) := by decide +kernel
theorem dL_law_1460 : decode cL_law 1460 = .ok (.aload_n 2, 1) := by decide +kernel
theorem dL_law_1461 : decode cL_law 1461 = .ok (.invokevirtual 139, 3) := by decide +kernel
theorem dL_law_1464 : decode cL_law 1464 = .ok (.iload 6, 2) := by decide +kernel
theorem dL_law_1466 : decode cL_law 1466 = .ok (.if_icmp .eq 5, 3) := by decide +kernel
theorem dL_law_1469 : decode cL_law 1469 = .ok (.iconst 0, 1) := by decide +kernel
theorem dL_law_1470 : decode cL_law 1470 = .ok (.ireturn, 1) := by decide +kernel
theorem dL_law_1471 : decode cL_law 1471 = .ok (.iload 6, 2) := by decide +kernel
theorem dL_law_1473 : decode cL_law 1473 = .ok (.ifCond .ne 22, 3) := by decide +kernel
theorem dL_law_1476 : decode cL_law 1476 = .ok (.aload_n 3, 1) := by decide +kernel
theorem dL_law_1477 : decode cL_law 1477 = .ok (.iconst 0, 1) := by decide +kernel
theorem dL_law_1478 : decode cL_law 1478 = .ok (.laload, 1) := by decide +kernel
theorem dL_law_1479 : decode cL_law 1479 = .ok (.iload 7, 2) := by decide +kernel
theorem dL_law_1481 : decode cL_law 1481 = .ok (.ifCond .eq 7, 3) := by decide +kernel
theorem dL_law_1484 : decode cL_law 1484 = .ok (.lconst 1, 1) := by decide +kernel
theorem dL_law_1485 : decode cL_law 1485 = .ok (.goto 4, 3) := by decide +kernel
theorem dL_law_1488 : decode cL_law 1488 = .ok (.lconst 0, 1) := by decide +kernel
theorem dL_law_1489 : decode cL_law 1489 = .ok (.lcmp, 1) := by decide +kernel
theorem dL_law_1490 : decode cL_law 1490 = .ok (.ifCond .eq 5, 3) := by decide +kernel
theorem dL_law_1493 : decode cL_law 1493 = .ok (.iconst 0, 1) := by decide +kernel
theorem dL_law_1494 : decode cL_law 1494 = .ok (.ireturn, 1) := by decide +kernel
theorem dL_law_1495 : decode cL_law 1495 = .ok (.goto 920, 3) := by decide +kernel
theorem dL_law_1498 : decode cL_law 1498 = .ok (.aload_n 1, 1) := by decide +kernel
theorem dL_law_1499 : decode cL_law 1499 = .ok (.aload_n 0, 1) := by decide +kernel
theorem dL_law_1500 : decode cL_law 1500 = .ok (.iload 5, 2) := by decide +kernel
theorem dL_law_1502 : decode cL_law 1502 = .ok (.iconst 1, 1) := by decide +kernel
theorem dL_law_1503 : decode cL_law 1503 = .ok (.iadd, 1) := by decide +kernel
theorem dL_law_1504 : decode cL_law 1504 = .ok (.iaload, 1) := by decide +kernel
theorem dL_law_1505 : decode cL_law 1505 = .ok (.aload_n 3, 1) := by decide +kernel
theorem dL_law_1506 : decode cL_law 1506 = .ok (.invokestatic 195, 3) := by decide +kernel
theorem dL_law_1509 : decode cL_law 1509 = .ok (.istore 6, 2) := by decide +kernel
theorem dL_law_1511 : decode cL_law 1511 = .ok (.aload_n 2, 1) := by decide +kernel
theorem dL_law_1512 : decode cL_law 1512 = .ok (.aload_n 0, 1) := by decide +kernel
theorem dL_law_1513 : decode cL_law 1513 = .ok (.iload 5, 2) := by decide +kernel
theorem dL_law_1515 : decode cL_law 1515 = .ok (.iconst 1, 1) := by decide +kernel
theorem dL_law_1516 : decode cL_law 1516 = .ok (.iadd, 1) := by decide +kernel
theorem dL_law_1517 : decode cL_law 1517 = .ok (.iaload, 1) := by decide +kernel
theorem dL_law_1518 : decode cL_law 1518 = .ok (.invokevirtual 197, 3) := by decide +kernel
theorem dL_law_1521 : decode cL_law 1521 = .ok (.istore 7, 2) := by decide +kernel
theorem dL_law_1523 : decode cL_law 1523 = .ok (.aload_n 2, 1) := by decide +kernel
theorem dL_law_1524 : decode cL_law 1524 = .ok (.invokevirtual 139, 3) := by decide +kernel
theorem dL_law_1527 : decode cL_law 1527 = .ok (.iload 6, 2) := by decide +kernel
theorem dL_law_1529 : decode cL_law 1529 = .ok (.if_icmp .eq 5, 3) := by decide +kernel
theorem dL_law_1532 : decode cL_law 1532 = .ok (.iconst 0, 1) := by decide +kernel
theorem dL_law_1533 : decode cL_law 1533 = .ok (.ireturn, 1) := by decide +kernel
theorem dL_law_1534 : decode cL_law 1534 = .ok (.iload 6, 2) := by decide +kernel
theorem dL_law_1536 : decode cL_law 1536 = .ok (.ifCond .ne 15, 3) := by decide +kernel
theorem dL_law_1539 : decode cL_law 1539 = .ok (.aload_n 3, 1) := by decide +kernel
theorem dL_law_1540 : decode cL_law 1540 = .ok (.iconst 0, 1) := by decide +kernel
theorem dL_law_1541 : decode cL_law 1541 = .ok (.laload, 1) := by decide +kernel
theorem dL_law_1542 : decode cL_law 1542 = .ok (.iload 7, 2) := by decide +kernel
theorem dL_law_1544 : decode cL_law 1544 = .ok (.i2l, 1) := by decide +kernel
theorem dL_law_1545 : decode cL_law 1545 = .ok (.lcmp, 1) := by decide +kernel
theorem dL_law_1546 : decode cL_law 1546 = .ok (.ifCond .eq 5, 3) := by decide +kernel
theorem dL_law_1549 : decode cL_law 1549 = .ok (.iconst 0, 1) := by decide +kernel
theorem dL_law_1550 : decode cL_law 1550 = .ok (.ireturn, 1) := by decide +kernel
theorem dL_law_1551 : decode cL_law 1551 = .ok (.goto 864, 3) := by decide +kernel
theorem dL_law_1554 : decode cL_law 1554 = .ok (.aload_n 1, 1) := by decide +kernel
theorem dL_law_1555 : decode cL_law 1555 = .ok (.aload_n 0, 1) := by decide +kernel
theorem dL_law_1556 : decode cL_law 1556 = .ok (.iload 5, 2) := by decide +kernel
theorem dL_law_1558 : decode cL_law 1558 = .ok (.iconst 1, 1) := by decide +kernel
theorem dL_law_1559 : decode cL_law 1559 = .ok (.iadd, 1) := by decide +kernel
theorem dL_law_1560 : decode cL_law 1560 = .ok (.iaload, 1) := by decide +kernel
theorem dL_law_1561 : decode cL_law 1561 = .ok (.aload_n 3, 1) := by decide +kernel
theorem dL_law_1562 : decode cL_law 1562 = .ok (.invokestatic 198, 3) := by decide +kernel
theorem dL_law_1565 : decode cL_law 1565 = .ok (.istore 6, 2) := by decide +kernel
theorem dL_law_1567 : decode cL_law 1567 = .ok (.aload_n 2, 1) := by decide +kernel
theorem dL_law_1568 : decode cL_law 1568 = .ok (.aload_n 0, 1) := by decide +kernel
theorem dL_law_1569 : decode cL_law 1569 = .ok (.iload 5, 2) := by decide +kernel
theorem dL_law_1571 : decode cL_law 1571 = .ok (.iconst 1, 1) := by decide +kernel
theorem dL_law_1572 : decode cL_law 1572 = .ok (.iadd, 1) := by decide +kernel
theorem dL_law_1573 : decode cL_law 1573 = .ok (.iaload, 1) := by decide +kernel
theorem dL_law_1574 : decode cL_law 1574 = .ok (.invokevirtual 200, 3) := by decide +kernel
theorem dL_law_1577 : decode cL_law 1577 = .ok (.istore 7, 2) := by decide +kernel
theorem dL_law_1579 : decode cL_law 1579 = .ok (.aload_n 2, 1) := by decide +kernel
theorem dL_law_1580 : decode cL_law 1580 = .ok (.invokevirtual 139, 3) := by decide +kernel
theorem dL_law_1583 : decode cL_law 1583 = .ok (.iload 6, 2) := by decide +kernel
theorem dL_law_1585 : decode cL_law 1585 = .ok (.if_icmp .eq 5, 3) := by decide +kernel
theorem dL_law_1588 : decode cL_law 1588 = .ok (.iconst 0, 1) := by decide +kernel
theorem dL_law_1589 : decode cL_law 1589 = .ok (.ireturn, 1) := by decide +kernel
theorem dL_law_1590 : decode cL_law 1590 = .ok (.iload 6, 2) := by decide +kernel
theorem dL_law_1592 : decode cL_law 1592 = .ok (.ifCond .ne 15, 3) := by decide +kernel
theorem dL_law_1595 : decode cL_law 1595 = .ok (.aload_n 3, 1) := by decide +kernel
theorem dL_law_1596 : decode cL_law 1596 = .ok (.iconst 0, 1) := by decide +kernel
theorem dL_law_1597 : decode cL_law 1597 = .ok (.laload, 1) := by decide +kernel
theorem dL_law_1598 : decode cL_law 1598 = .ok (.iload 7, 2) := by decide +kernel
theorem dL_law_1600 : decode cL_law 1600 = .ok (.i2l, 1) := by decide +kernel
theorem dL_law_1601 : decode cL_law 1601 = .ok (.lcmp, 1) := by decide +kernel
theorem dL_law_1602 : decode cL_law 1602 = .ok (.ifCond .eq 5, 3) := by decide +kernel
theorem dL_law_1605 : decode cL_law 1605 = .ok (.iconst 0, 1) := by decide +kernel
theorem dL_law_1606 : decode cL_law 1606 = .ok (.ireturn, 1) := by decide +kernel
theorem dL_law_1607 : decode cL_law 1607 = .ok (.goto 808, 3) := by decide +kernel
theorem dL_law_1610 : decode cL_law 1610 = .ok (.aload_n 1, 1) := by decide +kernel
theorem dL_law_1611 : decode cL_law 1611 = .ok (.aload_n 0, 1) := by decide +kernel
theorem dL_law_1612 : decode cL_law 1612 = .ok (.iload 5, 2) := by decide +kernel
theorem dL_law_1614 : decode cL_law 1614 = .ok (.iconst 1, 1) := by decide +kernel
theorem dL_law_1615 : decode cL_law 1615 = .ok (.iadd, 1) := by decide +kernel
theorem dL_law_1616 : decode cL_law 1616 = .ok (.iaload, 1) := by decide +kernel
theorem dL_law_1617 : decode cL_law 1617 = .ok (.aload_n 3, 1) := by decide +kernel
theorem dL_law_1618 : decode cL_law 1618 = .ok (.invokestatic 201, 3) := by decide +kernel
theorem dL_law_1621 : decode cL_law 1621 = .ok (.istore 6, 2) := by decide +kernel
theorem dL_law_1623 : decode cL_law 1623 = .ok (.aload_n 2, 1) := by decide +kernel
theorem dL_law_1624 : decode cL_law 1624 = .ok (.aload_n 0, 1) := by decide +kernel
theorem dL_law_1625 : decode cL_law 1625 = .ok (.iload 5, 2) := by decide +kernel
theorem dL_law_1627 : decode cL_law 1627 = .ok (.iconst 1, 1) := by decide +kernel
theorem dL_law_1628 : decode cL_law 1628 = .ok (.iadd, 1) := by decide +kernel
theorem dL_law_1629 : decode cL_law 1629 = .ok (.iaload, 1) := by decide +kernel
theorem dL_law_1630 : decode cL_law 1630 = .ok (.invokevirtual 203, 3) := by decide +kernel
theorem dL_law_1633 : decode cL_law 1633 = .ok (.istore 7, 2) := by decide +kernel
theorem dL_law_1635 : decode cL_law 1635 = .ok (.aload_n 2, 1) := by decide +kernel
theorem dL_law_1636 : decode cL_law 1636 = .ok (.invokevirtual 139, 3) := by decide +kernel
theorem dL_law_1639 : decode cL_law 1639 = .ok (.iload 6, 2) := by decide +kernel
theorem dL_law_1641 : decode cL_law 1641 = .ok (.if_icmp .eq 5, 3) := by decide +kernel
theorem dL_law_1644 : decode cL_law 1644 = .ok (.iconst 0, 1) := by decide +kernel
theorem dL_law_1645 : decode cL_law 1645 = .ok (.ireturn, 1) := by decide +kernel
theorem dL_law_1646 : decode cL_law 1646 = .ok (.iload 6, 2) := by decide +kernel
theorem dL_law_1648 : decode cL_law 1648 = .ok (.ifCond .ne 22, 3) := by decide +kernel
theorem dL_law_1651 : decode cL_law 1651 = .ok (.aload_n 3, 1) := by decide +kernel
theorem dL_law_1652 : decode cL_law 1652 = .ok (.iconst 0, 1) := by decide +kernel
theorem dL_law_1653 : decode cL_law 1653 = .ok (.laload, 1) := by decide +kernel
theorem dL_law_1654 : decode cL_law 1654 = .ok (.iload 7, 2) := by decide +kernel
theorem dL_law_1656 : decode cL_law 1656 = .ok (.ifCond .eq 7, 3) := by decide +kernel
theorem dL_law_1659 : decode cL_law 1659 = .ok (.lconst 1, 1) := by decide +kernel
theorem dL_law_1660 : decode cL_law 1660 = .ok (.goto 4, 3) := by decide +kernel
theorem dL_law_1663 : decode cL_law 1663 = .ok (.lconst 0, 1) := by decide +kernel
theorem dL_law_1664 : decode cL_law 1664 = .ok (.lcmp, 1) := by decide +kernel
theorem dL_law_1665 : decode cL_law 1665 = .ok (.ifCond .eq 5, 3) := by decide +kernel
theorem dL_law_1668 : decode cL_law 1668 = .ok (.iconst 0, 1) := by decide +kernel
theorem dL_law_1669 : decode cL_law 1669 = .ok (.ireturn, 1) := by decide +kernel
theorem dL_law_1670 : decode cL_law 1670 = .ok (.goto 745, 3) := by decide +kernel
theorem dL_law_1673 : decode cL_law 1673 = .ok (.aload_n 1, 1) := by decide +kernel
theorem dL_law_1674 : decode cL_law 1674 = .ok (.aload_n 0, 1) := by decide +kernel
theorem dL_law_1675 : decode cL_law 1675 = .ok (.iload 5, 2) := by decide +kernel
theorem dL_law_1677 : decode cL_law 1677 = .ok (.iconst 1, 1) := by decide +kernel
theorem dL_law_1678 : decode cL_law 1678 = .ok (.iadd, 1) := by decide +kernel
theorem dL_law_1679 : decode cL_law 1679 = .ok (.iaload, 1) := by decide +kernel
theorem dL_law_1680 : decode cL_law 1680 = .ok (.aload_n 0, 1) := by decide +kernel
theorem dL_law_1681 : decode cL_law 1681 = .ok (.iload 5, 2) := by decide +kernel
theorem dL_law_1683 : decode cL_law 1683 = .ok (.iconst 2, 1) := by decide +kernel
theorem dL_law_1684 : decode cL_law 1684 = .ok (.iadd, 1) := by decide +kernel
theorem dL_law_1685 : decode cL_law 1685 = .ok (.iaload, 1) := by decide +kernel
theorem dL_law_1686 : decode cL_law 1686 = .ok (.aload_n 0, 1) := by decide +kernel
theorem dL_law_1687 : decode cL_law 1687 = .ok (.iload 5, 2) := by decide +kernel
theorem dL_law_1689 : decode cL_law 1689 = .ok (.iconst 3, 1) := by decide +kernel
theorem dL_law_1690 : decode cL_law 1690 = .ok (.iadd, 1) := by decide +kernel
theorem dL_law_1691 : decode cL_law 1691 = .ok (.iaload, 1) := by decide +kernel
theorem dL_law_1692 : decode cL_law 1692 = .ok (.aload_n 3, 1) := by decide +kernel
theorem dL_law_1693 : decode cL_law 1693 = .ok (.invokestatic 204, 3) := by decide +kernel
theorem dL_law_1696 : decode cL_law 1696 = .ok (.istore 6, 2) := by decide +kernel
theorem dL_law_1698 : decode cL_law 1698 = .ok (.aload_n 2, 1) := by decide +kernel
theorem dL_law_1699 : decode cL_law 1699 = .ok (.aload_n 0, 1) := by decide +kernel
theorem dL_law_1700 : decode cL_law 1700 = .ok (.iload 5, 2) := by decide +kernel
theorem dL_law_1702 : decode cL_law 1702 = .ok (.iconst 1, 1) := by decide +kernel
theorem dL_law_1703 : decode cL_law 1703 = .ok (.iadd, 1) := by decide +kernel
theorem dL_law_1704 : decode cL_law 1704 = .ok (.iaload, 1) := by decide +kernel
theorem dL_law_1705 : decode cL_law 1705 = .ok (.aload_n 0, 1) := by decide +kernel
theorem dL_law_1706 : decode cL_law 1706 = .ok (.iload 5, 2) := by decide +kernel
theorem dL_law_1708 : decode cL_law 1708 = .ok (.iconst 2, 1) := by decide +kernel
theorem dL_law_1709 : decode cL_law 1709 = .ok (.iadd, 1) := by decide +kernel
theorem dL_law_1710 : decode cL_law 1710 = .ok (.iaload, 1) := by decide +kernel
theorem dL_law_1711 : decode cL_law 1711 = .ok (.aload_n 0, 1) := by decide +kernel
theorem dL_law_1712 : decode cL_law 1712 = .ok (.iload 5, 2) := by decide +kernel
theorem dL_law_1714 : decode cL_law 1714 = .ok (.iconst 3, 1) := by decide +kernel
theorem dL_law_1715 : decode cL_law 1715 = .ok (.iadd, 1) := by decide +kernel
theorem dL_law_1716 : decode cL_law 1716 = .ok (.iaload, 1) := by decide +kernel
theorem dL_law_1717 : decode cL_law 1717 = .ok (.invokevirtual 206, 3) := by decide +kernel
theorem dL_law_1720 : decode cL_law 1720 = .ok (.istore 7, 2) := by decide +kernel
theorem dL_law_1722 : decode cL_law 1722 = .ok (.aload_n 2, 1) := by decide +kernel
theorem dL_law_1723 : decode cL_law 1723 = .ok (.invokevirtual 139, 3) := by decide +kernel
theorem dL_law_1726 : decode cL_law 1726 = .ok (.iload 6, 2) := by decide +kernel
theorem dL_law_1728 : decode cL_law 1728 = .ok (.if_icmp .eq 5, 3) := by decide +kernel
theorem dL_law_1731 : decode cL_law 1731 = .ok (.iconst 0, 1) := by decide +kernel
theorem dL_law_1732 : decode cL_law 1732 = .ok (.ireturn, 1) := by decide +kernel
theorem dL_law_1733 : decode cL_law 1733 = .ok (.iload 6, 2) := by decide +kernel
theorem dL_law_1735 : decode cL_law 1735 = .ok (.ifCond .ne 15, 3) := by decide +kernel
theorem dL_law_1738 : decode cL_law 1738 = .ok (.aload_n 3, 1) := by decide +kernel
theorem dL_law_1739 : decode cL_law 1739 = .ok (.iconst 0, 1) := by decide +kernel
theorem dL_law_1740 : decode cL_law 1740 = .ok (.laload, 1) := by decide +kernel
theorem dL_law_1741 : decode cL_law 1741 = .ok (.iload 7, 2) := by decide +kernel
theorem dL_law_1743 : decode cL_law 1743 = .ok (.i2l, 1) := by decide +kernel
theorem dL_law_1744 : decode cL_law 1744 = .ok (.lcmp, 1) := by decide +kernel
theorem dL_law_1745 : decode cL_law 1745 = .ok (.ifCond .eq 5, 3) := by decide +kernel
theorem dL_law_1748 : decode cL_law 1748 = .ok (.iconst 0, 1) := by decide +kernel
theorem dL_law_1749 : decode cL_law 1749 = .ok (.ireturn, 1) := by decide +kernel
theorem dL_law_1750 : decode cL_law 1750 = .ok (.goto 665, 3) := by decide +kernel
theorem dL_law_1753 : decode cL_law 1753 = .ok (.aload_n 1, 1) := by decide +kernel
theorem dL_law_1754 : decode cL_law 1754 = .ok (.aload_n 0, 1) := by decide +kernel
theorem dL_law_1755 : decode cL_law 1755 = .ok (.iload 5, 2) := by decide +kernel
theorem dL_law_1757 : decode cL_law 1757 = .ok (.iconst 1, 1) := by decide +kernel
theorem dL_law_1758 : decode cL_law 1758 = .ok (.iadd, 1) := by decide +kernel
theorem dL_law_1759 : decode cL_law 1759 = .ok (.iaload, 1) := by decide +kernel
theorem dL_law_1760 : decode cL_law 1760 = .ok (.aload_n 3, 1) := by decide +kernel
theorem dL_law_1761 : decode cL_law 1761 = .ok (.invokestatic 207, 3) := by decide +kernel
theorem dL_law_1764 : decode cL_law 1764 = .ok (.istore 6, 2) := by decide +kernel
theorem dL_law_1766 : decode cL_law 1766 = .ok (.aload_n 2, 1) := by decide +kernel
theorem dL_law_1767 : decode cL_law 1767 = .ok (.aload_n 0, 1) := by decide +kernel
theorem dL_law_1768 : decode cL_law 1768 = .ok (.iload 5, 2) := by decide +kernel
theorem dL_law_1770 : decode cL_law 1770 = .ok (.iconst 1, 1) := by decide +kernel
theorem dL_law_1771 : decode cL_law 1771 = .ok (.iadd, 1) := by decide +kernel
theorem dL_law_1772 : decode cL_law 1772 = .ok (.iaload, 1) := by decide +kernel
theorem dL_law_1773 : decode cL_law 1773 = .ok (.invokevirtual 209, 3) := by decide +kernel
theorem dL_law_1776 : decode cL_law 1776 = .ok (.istore 7, 2) := by decide +kernel
theorem dL_law_1778 : decode cL_law 1778 = .ok (.aload_n 2, 1) := by decide +kernel
theorem dL_law_1779 : decode cL_law 1779 = .ok (.invokevirtual 139, 3) := by decide +kernel
theorem dL_law_1782 : decode cL_law 1782 = .ok (.iload 6, 2) := by decide +kernel
theorem dL_law_1784 : decode cL_law 1784 = .ok (.if_icmp .eq 5, 3) := by decide +kernel
theorem dL_law_1787 : decode cL_law 1787 = .ok (.iconst 0, 1) := by decide +kernel
theorem dL_law_1788 : decode cL_law 1788 = .ok (.ireturn, 1) := by decide +kernel
theorem dL_law_1789 : decode cL_law 1789 = .ok (.iload 6, 2) := by decide +kernel
theorem dL_law_1791 : decode cL_law 1791 = .ok (.ifCond .ne 15, 3) := by decide +kernel
theorem dL_law_1794 : decode cL_law 1794 = .ok (.aload_n 3, 1) := by decide +kernel
theorem dL_law_1795 : decode cL_law 1795 = .ok (.iconst 0, 1) := by decide +kernel
theorem dL_law_1796 : decode cL_law 1796 = .ok (.laload, 1) := by decide +kernel
theorem dL_law_1797 : decode cL_law 1797 = .ok (.iload 7, 2) := by decide +kernel
theorem dL_law_1799 : decode cL_law 1799 = .ok (.i2l, 1) := by decide +kernel
theorem dL_law_1800 : decode cL_law 1800 = .ok (.lcmp, 1) := by decide +kernel
theorem dL_law_1801 : decode cL_law 1801 = .ok (.ifCond .eq 5, 3) := by decide +kernel
theorem dL_law_1804 : decode cL_law 1804 = .ok (.iconst 0, 1) := by decide +kernel
theorem dL_law_1805 : decode cL_law 1805 = .ok (.ireturn, 1) := by decide +kernel
theorem dL_law_1806 : decode cL_law 1806 = .ok (.goto 609, 3) := by decide +kernel
theorem dL_law_1809 : decode cL_law 1809 = .ok (.aload_n 1, 1) := by decide +kernel
theorem dL_law_1810 : decode cL_law 1810 = .ok (.invokevirtual 210, 3) := by decide +kernel
theorem dL_law_1813 : decode cL_law 1813 = .ok (.aload_n 2, 1) := by decide +kernel
theorem dL_law_1814 : decode cL_law 1814 = .ok (.invokevirtual 214, 3) := by decide +kernel
theorem dL_law_1817 : decode cL_law 1817 = .ok (.if_icmp .eq 598, 3) := by decide +kernel
theorem dL_law_1820 : decode cL_law 1820 = .ok (.iconst 0, 1) := by decide +kernel
theorem dL_law_1821 : decode cL_law 1821 = .ok (.ireturn, 1) := by decide +kernel
theorem dL_law_1822 : decode cL_law 1822 = .ok (.aload_n 1, 1) := by decide +kernel
theorem dL_law_1823 : decode cL_law 1823 = .ok (.aload_n 0, 1) := by decide +kernel
theorem dL_law_1824 : decode cL_law 1824 = .ok (.iload 5, 2) := by decide +kernel
theorem dL_law_1826 : decode cL_law 1826 = .ok (.iconst 1, 1) := by decide +kernel
theorem dL_law_1827 : decode cL_law 1827 = .ok (.iadd, 1) := by decide +kernel
theorem dL_law_1828 : decode cL_law 1828 = .ok (.iaload, 1) := by decide +kernel
theorem dL_law_1829 : decode cL_law 1829 = .ok (.aload_n 3, 1) := by decide +kernel
theorem dL_law_1830 : decode cL_law 1830 = .ok (.invokestatic 215, 3) := by decide +kernel
theorem dL_law_1833 : decode cL_law 1833 = .ok (.istore 6, 2) := by decide +kernel
theorem dL_law_1835 : decode cL_law 1835 = .ok (.aload_n 2, 1) := by decide +kernel
theorem dL_law_1836 : decode cL_law 1836 = .ok (.aload_n 0, 1) := by decide +kernel
theorem dL_law_1837 : decode cL_law 1837 = .ok (.iload 5, 2) := by decide +kernel
theorem dL_law_1839 : decode cL_law 1839 = .ok (.iconst 1, 1) := by decide +kernel
theorem dL_law_1840 : decode cL_law 1840 = .ok (.iadd, 1) := by decide +kernel
theorem dL_law_1841 : decode cL_law 1841 = .ok (.iaload, 1) := by decide +kernel
theorem dL_law_1842 : decode cL_law 1842 = .ok (.invokevirtual 217, 3) := by decide +kernel
theorem dL_law_1845 : decode cL_law 1845 = .ok (.istore 7, 2) := by decide +kernel
theorem dL_law_1847 : decode cL_law 1847 = .ok (.aload_n 2, 1) := by decide +kernel
theorem dL_law_1848 : decode cL_law 1848 = .ok (.invokevirtual 139, 3) := by decide +kernel
theorem dL_law_1851 : decode cL_law 1851 = .ok (.iload 6, 2) := by decide +kernel
theorem dL_law_1853 : decode cL_law 1853 = .ok (.if_icmp .eq 5, 3) := by decide +kernel
theorem dL_law_1856 : decode cL_law 1856 = .ok (.iconst 0, 1) := by decide +kernel
theorem dL_law_1857 : decode cL_law 1857 = .ok (.ireturn, 1) := by decide +kernel
theorem dL_law_1858 : decode cL_law 1858 = .ok (.iload 6, 2) := by decide +kernel
theorem dL_law_1860 : decode cL_law 1860 = .ok (.ifCond .ne 15, 3) := by decide +kernel
theorem dL_law_1863 : decode cL_law 1863 = .ok (.aload_n 3, 1) := by decide +kernel
theorem dL_law_1864 : decode cL_law 1864 = .ok (.iconst 0, 1) := by decide +kernel
theorem dL_law_1865 : decode cL_law 1865 = .ok (.laload, 1) := by decide +kernel
theorem dL_law_1866 : decode cL_law 1866 = .ok (.iload 7, 2) := by decide +kernel
theorem dL_law_1868 : decode cL_law 1868 = .ok (.i2l, 1) := by decide +kernel
theorem dL_law_1869 : decode cL_law 1869 = .ok (.lcmp, 1) := by decide +kernel
theorem dL_law_1870 : decode cL_law 1870 = .ok (.ifCond .eq 5, 3) := by decide +kernel
theorem dL_law_1873 : decode cL_law 1873 = .ok (.iconst 0, 1) := by decide +kernel
theorem dL_law_1874 : decode cL_law 1874 = .ok (.ireturn, 1) := by decide +kernel
theorem dL_law_1875 : decode cL_law 1875 = .ok (.goto 540, 3) := by decide +kernel
theorem dL_law_1878 : decode cL_law 1878 = .ok (.aload_n 1, 1) := by decide +kernel
theorem dL_law_1879 : decode cL_law 1879 = .ok (.aload_n 0, 1) := by decide +kernel
theorem dL_law_1880 : decode cL_law 1880 = .ok (.iload 5, 2) := by decide +kernel
theorem dL_law_1882 : decode cL_law 1882 = .ok (.iconst 1, 1) := by decide +kernel
theorem dL_law_1883 : decode cL_law 1883 = .ok (.iadd, 1) := by decide +kernel
theorem dL_law_1884 : decode cL_law 1884 = .ok (.iaload, 1) := by decide +kernel
theorem dL_law_1885 : decode cL_law 1885 = .ok (.aload_n 0, 1) := by decide +kernel
theorem dL_law_1886 : decode cL_law 1886 = .ok (.iload 5, 2) := by decide +kernel
theorem dL_law_1888 : decode cL_law 1888 = .ok (.iconst 2, 1) := by decide +kernel
theorem dL_law_1889 : decode cL_law 1889 = .ok (.iadd, 1) := by decide +kernel
theorem dL_law_1890 : decode cL_law 1890 = .ok (.iaload, 1) := by decide +kernel
theorem dL_law_1891 : decode cL_law 1891 = .ok (.aload_n 3, 1) := by decide +kernel
theorem dL_law_1892 : decode cL_law 1892 = .ok (.invokestatic 218, 3) := by decide +kernel
theorem dL_law_1895 : decode cL_law 1895 = .ok (.istore 6, 2) := by decide +kernel
theorem dL_law_1897 : decode cL_law 1897 = .ok (.aload_n 2, 1) := by decide +kernel
theorem dL_law_1898 : decode cL_law 1898 = .ok (.aload_n 0, 1) := by decide +kernel
theorem dL_law_1899 : decode cL_law 1899 = .ok (.iload 5, 2) := by decide +kernel
theorem dL_law_1901 : decode cL_law 1901 = .ok (.iconst 1, 1) := by decide +kernel
theorem dL_law_1902 : decode cL_law 1902 = .ok (.iadd, 1) := by decide +kernel
theorem dL_law_1903 : decode cL_law 1903 = .ok (.iaload, 1) := by decide +kernel
theorem dL_law_1904 : decode cL_law 1904 = .ok (.aload_n 0, 1) := by decide +kernel
theorem dL_law_1905 : decode cL_law 1905 = .ok (.iload 5, 2) := by decide +kernel
theorem dL_law_1907 : decode cL_law 1907 = .ok (.iconst 2, 1) := by decide +kernel
theorem dL_law_1908 : decode cL_law 1908 = .ok (.iadd, 1) := by decide +kernel
theorem dL_law_1909 : decode cL_law 1909 = .ok (.iaload, 1) := by decide +kernel
theorem dL_law_1910 : decode cL_law 1910 = .ok (.invokevirtual 220, 3) := by decide +kernel
theorem dL_law_1913 : decode cL_law 1913 = .ok (.istore 7, 2) := by decide +kernel
theorem dL_law_1915 : decode cL_law 1915 = .ok (.aload_n 2, 1) := by decide +kernel
theorem dL_law_1916 : decode cL_law 1916 = .ok (.invokevirtual 139, 3) := by decide +kernel
theorem dL_law_1919 : decode cL_law 1919 = .ok (.iload 6, 2) := by decide +kernel
theorem dL_law_1921 : decode cL_law 1921 = .ok (.if_icmp .eq 5, 3) := by decide +kernel
theorem dL_law_1924 : decode cL_law 1924 = .ok (.iconst 0, 1) := by decide +kernel
theorem dL_law_1925 : decode cL_law 1925 = .ok (.ireturn, 1) := by decide +kernel
theorem dL_law_1926 : decode cL_law 1926 = .ok (.iload 6, 2) := by decide +kernel
theorem dL_law_1928 : decode cL_law 1928 = .ok (.ifCond .ne 15, 3) := by decide +kernel
theorem dL_law_1931 : decode cL_law 1931 = .ok (.aload_n 3, 1) := by decide +kernel
theorem dL_law_1932 : decode cL_law 1932 = .ok (.iconst 0, 1) := by decide +kernel
theorem dL_law_1933 : decode cL_law 1933 = .ok (.laload, 1) := by decide +kernel
theorem dL_law_1934 : decode cL_law 1934 = .ok (.iload 7, 2) := by decide +kernel
theorem dL_law_1936 : decode cL_law 1936 = .ok (.i2l, 1) := by decide +kernel
theorem dL_law_1937 : decode cL_law 1937 = .ok (.lcmp, 1) := by decide +kernel
theorem dL_law_1938 : decode cL_law 1938 = .ok (.ifCond .eq 5, 3) := by decide +kernel
theorem dL_law_1941 : decode cL_law 1941 = .ok (.iconst 0, 1) := by decide +kernel
theorem dL_law_1942 : decode cL_law 1942 = .ok (.ireturn, 1) := by decide +kernel
theorem dL_law_1943 : decode cL_law 1943 = .ok (.goto 472, 3) := by decide +kernel
theorem dL_law_1946 : decode cL_law 1946 = .ok (.aload_n 1, 1) := by decide +kernel
theorem dL_law_1947 : decode cL_law 1947 = .ok (.invokevirtual 221, 3) := by decide +kernel
theorem dL_law_1950 : decode cL_law 1950 = .ok (.aload_n 2, 1) := by decide +kernel
theorem dL_law_1951 : decode cL_law 1951 = .ok (.invokevirtual 224, 3) := by decide +kernel
theorem dL_law_1954 : decode cL_law 1954 = .ok (.if_icmp .eq 461, 3) := by decide +kernel
theorem dL_law_1957 : decode cL_law 1957 = .ok (.iconst 0, 1) := by decide +kernel
theorem dL_law_1958 : decode cL_law 1958 = .ok (.ireturn, 1) := by decide +kernel
theorem dL_law_1959 : decode cL_law 1959 = .ok (.aload_n 1, 1) := by decide +kernel
theorem dL_law_1960 : decode cL_law 1960 = .ok (.aload_n 3, 1) := by decide +kernel
theorem dL_law_1961 : decode cL_law 1961 = .ok (.invokestatic 225, 3) := by decide +kernel
theorem dL_law_1964 : decode cL_law 1964 = .ok (.istore 6, 2) := by decide +kernel
theorem dL_law_1966 : decode cL_law 1966 = .ok (.aload_n 2, 1) := by decide +kernel
theorem dL_law_1967 : decode cL_law 1967 = .ok (.invokevirtual 228, 3) := by decide +kernel
theorem dL_law_1970 : decode cL_law 1970 = .ok (.istore 7, 2) := by decide +kernel
theorem dL_law_1972 : decode cL_law 1972 = .ok (.aload_n 2, 1) := by decide +kernel
theorem dL_law_1973 : decode cL_law 1973 = .ok (.invokevirtual 139, 3) := by decide +kernel
theorem dL_law_1976 : decode cL_law 1976 = .ok (.iload 6, 2) := by decide +kernel
theorem dL_law_1978 : decode cL_law 1978 = .ok (.if_icmp .eq 5, 3) := by decide +kernel
theorem dL_law_1981 : decode cL_law 1981 = .ok (.iconst 0, 1) := by decide +kernel
theorem dL_law_1982 : decode cL_law 1982 = .ok (.ireturn, 1) := by decide +kernel
theorem dL_law_1983 : decode cL_law 1983 = .ok (.iload 6, 2) := by decide +kernel
theorem dL_law_1985 : decode cL_law 1985 = .ok (.ifCond .ne 15, 3) := by decide +kernel
theorem dL_law_1988 : decode cL_law 1988 = .ok (.aload_n 3, 1) := by decide +kernel
theorem dL_law_1989 : decode cL_law 1989 = .ok (.iconst 0, 1) := by decide +kernel
theorem dL_law_1990 : decode cL_law 1990 = .ok (.laload, 1) := by decide +kernel
theorem dL_law_1991 : decode cL_law 1991 = .ok (.iload 7, 2) := by decide +kernel
theorem dL_law_1993 : decode cL_law 1993 = .ok (.i2l, 1) := by decide +kernel
theorem dL_law_1994 : decode cL_law 1994 = .ok (.lcmp, 1) := by decide +kernel
theorem dL_law_1995 : decode cL_law 1995 = .ok (.ifCond .eq 5, 3) := by decide +kernel
theorem dL_law_1998 : decode cL_law 1998 = .ok (.iconst 0, 1) := by decide +kernel
theorem dL_law_1999 : decode cL_law 1999 = .ok (.ireturn, 1) := by decide +kernel
theorem dL_law_2000 : decode cL_law 2000 = .ok (.goto 415, 3) := by decide +kernel
theorem dL_law_2003 : decode cL_law 2003 = .ok (.aload_n 1, 1) := by decide +kernel
theorem dL_law_2004 : decode cL_law 2004 = .ok (.invokevirtual 229, 3) := by decide +kernel
theorem dL_law_2007 : decode cL_law 2007 = .ok (.aload_n 2, 1) := by decide +kernel
theorem dL_law_2008 : decode cL_law 2008 = .ok (.invokevirtual 232, 3) := by decide +kernel
theorem dL_law_2011 : decode cL_law 2011 = .ok (.if_icmp .eq 404, 3) := by decide +kernel
theorem dL_law_2014 : decode cL_law 2014 = .ok (.iconst 0, 1) := by decide +kernel
theorem dL_law_2015 : decode cL_law 2015 = .ok (.ireturn, 1) := by decide +kernel
theorem dL_law_2016 : decode cL_law 2016 = .ok (.aload_n 1, 1) := by decide +kernel
theorem dL_law_2017 : decode cL_law 2017 = .ok (.aload_n 3, 1) := by decide +kernel
theorem dL_law_2018 : decode cL_law 2018 = .ok (.invokestatic 233, 3) := by decide +kernel
theorem dL_law_2021 : decode cL_law 2021 = .ok (.istore 6, 2) := by decide +kernel
theorem dL_law_2023 : decode cL_law 2023 = .ok (.aload_n 2, 1) := by decide +kernel
theorem dL_law_2024 : decode cL_law 2024 = .ok (.invokevirtual 235, 3) := by decide +kernel
theorem dL_law_2027 : decode cL_law 2027 = .ok (.istore 7, 2) := by decide +kernel
theorem dL_law_2029 : decode cL_law 2029 = .ok (.aload_n 2, 1) := by decide +kernel
theorem dL_law_2030 : decode cL_law 2030 = .ok (.invokevirtual 139, 3) := by decide +kernel
theorem dL_law_2033 : decode cL_law 2033 = .ok (.iload 6, 2) := by decide +kernel
theorem dL_law_2035 : decode cL_law 2035 = .ok (.if_icmp .eq 5, 3) := by decide +kernel
theorem dL_law_2038 : decode cL_law 2038 = .ok (.iconst 0, 1) := by decide +kernel
theorem dL_law_2039 : decode cL_law 2039 = .ok (.ireturn, 1) := by decide +kernel
theorem dL_law_2040 : decode cL_law 2040 = .ok (.iload 6, 2) := by decide +kernel
theorem dL_law_2042 : decode cL_law 2042 = .ok (.ifCond .ne 15, 3) := by decide +kernel
theorem dL_law_2045 : decode cL_law 2045 = .ok (.aload_n 3, 1) := by decide +kernel
theorem dL_law_2046 : decode cL_law 2046 = .ok (.iconst 0, 1) := by decide +kernel
theorem dL_law_2047 : decode cL_law 2047 = .ok (.laload, 1) := by decide +kernel
theorem dL_law_2048 : decode cL_law 2048 = .ok (.iload 7, 2) := by decide +kernel
theorem dL_law_2050 : decode cL_law 2050 = .ok (.i2l, 1) := by decide +kernel
theorem dL_law_2051 : decode cL_law 2051 = .ok (.lcmp, 1) := by decide +kernel
theorem dL_law_2052 : decode cL_law 2052 = .ok (.ifCond .eq 5, 3) := by decide +kernel
theorem dL_law_2055 : decode cL_law 2055 = .ok (.iconst 0, 1) := by decide +kernel
theorem dL_law_2056 : decode cL_law 2056 = .ok (.ireturn, 1) := by decide +kernel
theorem dL_law_2057 : decode cL_law 2057 = .ok (.goto 358, 3) := by decide +kernel
theorem dL_law_2060 : decode cL_law 2060 = .ok (.aload_n 1, 1) := by decide +kernel
theorem dL_law_2061 : decode cL_law 2061 = .ok (.aload_n 3, 1) := by decide +kernel
theorem dL_law_2062 : decode cL_law 2062 = .ok (.invokestatic 236, 3) := by decide +kernel
theorem dL_law_2065 : decode cL_law 2065 = .ok (.istore 6, 2) := by decide +kernel
theorem dL_law_2067 : decode cL_law 2067 = .ok (.aload_n 2, 1) := by decide +kernel
theorem dL_law_2068 : decode cL_law 2068 = .ok (.invokevirtual 238, 3) := by decide +kernel
theorem dL_law_2071 : decode cL_law 2071 = .ok (.istore 7, 2) := by decide +kernel
theorem dL_law_2073 : decode cL_law 2073 = .ok (.aload_n 2, 1) := by decide +kernel
theorem dL_law_2074 : decode cL_law 2074 = .ok (.invokevirtual 139, 3) := by decide +kernel
theorem dL_law_2077 : decode cL_law 2077 = .ok (.iload 6, 2) := by decide +kernel
theorem dL_law_2079 : decode cL_law 2079 = .ok (.if_icmp .eq 5, 3) := by decide +kernel
theorem dL_law_2082 : decode cL_law 2082 = .ok (.iconst 0, 1) := by decide +kernel
theorem dL_law_2083 : decode cL_law 2083 = .ok (.ireturn, 1) := by decide +kernel
theorem dL_law_2084 : decode cL_law 2084 = .ok (.iload 6, 2) := by decide +kernel
theorem dL_law_2086 : decode cL_law 2086 = .ok (.ifCond .ne 15, 3) := by decide +kernel
theorem dL_law_2089 : decode cL_law 2089 = .ok (.aload_n 3, 1) := by decide +kernel
theorem dL_law_2090 : decode cL_law 2090 = .ok (.iconst 0, 1) := by decide +kernel
theorem dL_law_2091 : decode cL_law 2091 = .ok (.laload, 1) := by decide +kernel
theorem dL_law_2092 : decode cL_law 2092 = .ok (.iload 7, 2) := by decide +kernel
theorem dL_law_2094 : decode cL_law 2094 = .ok (.i2l, 1) := by decide +kernel
theorem dL_law_2095 : decode cL_law 2095 = .ok (.lcmp, 1) := by decide +kernel
theorem dL_law_2096 : decode cL_law 2096 = .ok (.ifCond .eq 5, 3) := by decide +kernel
theorem dL_law_2099 : decode cL_law 2099 = .ok (.iconst 0, 1) := by decide +kernel
theorem dL_law_2100 : decode cL_law 2100 = .ok (.ireturn, 1) := by decide +kernel
theorem dL_law_2101 : decode cL_law 2101 = .ok (.goto 314, 3) := by decide +kernel
theorem dL_law_2104 : decode cL_law 2104 = .ok (.aload_n 1, 1) := by decide +kernel
theorem dL_law_2105 : decode cL_law 2105 = .ok (.aload_n 3, 1) := by decide +kernel
theorem dL_law_2106 : decode cL_law 2106 = .ok (.invokestatic 239, 3) := by decide +kernel
theorem dL_law_2109 : decode cL_law 2109 = .ok (.istore 6, 2) := by decide +kernel
theorem dL_law_2111 : decode cL_law 2111 = .ok (.aload_n 2, 1) := by decide +kernel
theorem dL_law_2112 : decode cL_law 2112 = .ok (.invokevirtual 241, 3) := by decide +kernel
theorem dL_law_2115 : decode cL_law 2115 = .ok (.istore 7, 2) := by decide +kernel
theorem dL_law_2117 : decode cL_law 2117 = .ok (.aload_n 2, 1) := by decide +kernel
theorem dL_law_2118 : decode cL_law 2118 = .ok (.invokevirtual 139, 3) := by decide +kernel
theorem dL_law_2121 : decode cL_law 2121 = .ok (.iload 6, 2) := by decide +kernel
theorem dL_law_2123 : decode cL_law 2123 = .ok (.if_icmp .eq 5, 3) := by decide +kernel
theorem dL_law_2126 : decode cL_law 2126 = .ok (.iconst 0, 1) := by decide +kernel
theorem dL_law_2127 : decode cL_law 2127 = .ok (.ireturn, 1) := by decide +kernel
theorem dL_law_2128 : decode cL_law 2128 = .ok (.iload 6, 2) := by decide +kernel
theorem dL_law_2130 : decode cL_law 2130 = .ok (.ifCond .ne 15, 3) := by decide +kernel
theorem dL_law_2133 : decode cL_law 2133 = .ok (.aload_n 3, 1) := by decide +kernel
theorem dL_law_2134 : decode cL_law 2134 = .ok (.iconst 0, 1) := by decide +kernel
theorem dL_law_2135 : decode cL_law 2135 = .ok (.laload, 1) := by decide +kernel
theorem dL_law_2136 : decode cL_law 2136 = .ok (.iload 7, 2) := by decide +kernel
theorem dL_law_2138 : decode cL_law 2138 = .ok (.i2l, 1) := by decide +kernel
theorem dL_law_2139 : decode cL_law 2139 = .ok (.lcmp, 1) := by decide +kernel
theorem dL_law_2140 : decode cL_law 2140 = .ok (.ifCond .eq 5, 3) := by decide +kernel
theorem dL_law_2143 : decode cL_law 2143 = .ok (.iconst 0, 1) := by decide +kernel
theorem dL_law_2144 : decode cL_law 2144 = .ok (.ireturn, 1) := by decide +kernel
theorem dL_law_2145 : decode cL_law 2145 = .ok (.goto 270, 3) := by decide +kernel
theorem dL_law_2148 : decode cL_law 2148 = .ok (.aload_n 1, 1) := by decide +kernel
theorem dL_law_2149 : decode cL_law 2149 = .ok (.invokevirtual 242, 3) := by decide +kernel
theorem dL_law_2152 : decode cL_law 2152 = .ok (.aload_n 2, 1) := by decide +kernel
theorem dL_law_2153 : decode cL_law 2153 = .ok (.invokevirtual 245, 3) := by decide +kernel
theorem dL_law_2156 : decode cL_law 2156 = .ok (.if_icmp .eq 259, 3) := by decide +kernel
theorem dL_law_2159 : decode cL_law 2159 = .ok (.iconst 0, 1) := by decide +kernel
theorem dL_law_2160 : decode cL_law 2160 = .ok (.ireturn, 1) := by decide +kernel
theorem dL_law_2161 : decode cL_law 2161 = .ok (.aload_n 1, 1) := by decide +kernel
theorem dL_law_2162 : decode cL_law 2162 = .ok (.invokevirtual 246, 3) := by decide +kernel
theorem dL_law_2165 : decode cL_law 2165 = .ok (.aload_n 2, 1) := by decide +kernel
theorem dL_law_2166 : decode cL_law 2166 = .ok (.invokevirtual 249, 3) := by decide +kernel
theorem dL_law_2169 : decode cL_law 2169 = .ok (.if_icmp .eq 246, 3) := by decide +kernel
theorem dL_law_2172 : decode cL_law 2172 = .ok (.iconst 0, 1) := by decide +kernel
theorem dL_law_2173 : decode cL_law 2173 = .ok (.ireturn, 1) := by decide +kernel
theorem dL_law_2174 : decode cL_law 2174 = .ok (.aload_n 1, 1) := by decide +kernel
theorem dL_law_2175 : decode cL_law 2175 = .ok (.aload_n 0, 1) := by decide +kernel
theorem dL_law_2176 : decode cL_law 2176 = .ok (.iload 5, 2) := by decide +kernel
theorem dL_law_2178 : decode cL_law 2178 = .ok (.iconst 1, 1) := by decide +kernel
theorem dL_law_2179 : decode cL_law 2179 = .ok (.iadd, 1) := by decide +kernel
theorem dL_law_2180 : decode cL_law 2180 = .ok (.iaload, 1) := by decide +kernel
theorem dL_law_2181 : decode cL_law 2181 = .ok (.aload_n 3, 1) := by decide +kernel
theorem dL_law_2182 : decode cL_law 2182 = .ok (.invokestatic 250, 3) := by decide +kernel
theorem dL_law_2185 : decode cL_law 2185 = .ok (.istore 6, 2) := by decide +kernel
theorem dL_law_2187 : decode cL_law 2187 = .ok (.aload_n 2, 1) := by decide +kernel
theorem dL_law_2188 : decode cL_law 2188 = .ok (.aload_n 0, 1) := by decide +kernel
theorem dL_law_2189 : decode cL_law 2189 = .ok (.iload 5, 2) := by decide +kernel
theorem dL_law_2191 : decode cL_law 2191 = .ok (.iconst 1, 1) := by decide +kernel
theorem dL_law_2192 : decode cL_law 2192 = .ok (.iadd, 1) := by decide +kernel
theorem dL_law_2193 : decode cL_law 2193 = .ok (.iaload, 1) := by decide +kernel
theorem dL_law_2194 : decode cL_law 2194 = .ok (.invokevirtual 252, 3) := by decide +kernel
theorem dL_law_2197 : decode cL_law 2197 = .ok (.istore 7, 2) := by decide +kernel
theorem dL_law_2199 : decode cL_law 2199 = .ok (.aload_n 2, 1) := by decide +kernel
theorem dL_law_2200 : decode cL_law 2200 = .ok (.invokevirtual 139, 3) := by decide +kernel
theorem dL_law_2203 : decode cL_law 2203 = .ok (.iload 6, 2) := by decide +kernel
theorem dL_law_2205 : decode cL_law 2205 = .ok (.if_icmp .eq 5, 3) := by decide +kernel
theorem dL_law_2208 : decode cL_law 2208 = .ok (.iconst 0, 1) := by decide +kernel
theorem dL_law_2209 : decode cL_law 2209 = .ok (.ireturn, 1) := by decide +kernel
theorem dL_law_2210 : decode cL_law 2210 = .ok (.iload 6, 2) := by decide +kernel
theorem dL_law_2212 : decode cL_law 2212 = .ok (.ifCond .ne 15, 3) := by decide +kernel
theorem dL_law_2215 : decode cL_law 2215 = .ok (.aload_n 3, 1) := by decide +kernel
theorem dL_law_2216 : decode cL_law 2216 = .ok (.iconst 0, 1) := by decide +kernel
theorem dL_law_2217 : decode cL_law 2217 = .ok (.laload, 1) := by decide +kernel
theorem dL_law_2218 : decode cL_law 2218 = .ok (.iload 7, 2) := by decide +kernel
theorem dL_law_2220 : decode cL_law 2220 = .ok (.i2l, 1) := by decide +kernel
theorem dL_law_2221 : decode cL_law 2221 = .ok (.lcmp, 1) := by decide +kernel
theorem dL_law_2222 : decode cL_law 2222 = .ok (.ifCond .eq 5, 3) := by decide +kernel
theorem dL_law_2225 : decode cL_law 2225 = .ok (.iconst 0, 1) := by decide +kernel
theorem dL_law_2226 : decode cL_law 2226 = .ok (.ireturn, 1) := by decide +kernel
theorem dL_law_2227 : decode cL_law 2227 = .ok (.goto 188, 3) := by decide +kernel
theorem dL_law_2230 : decode cL_law 2230 = .ok (.aload_n 1, 1) := by decide +kernel
theorem dL_law_2231 : decode cL_law 2231 = .ok (.aload_n 0, 1) := by decide +kernel
theorem dL_law_2232 : decode cL_law 2232 = .ok (.iload 5, 2) := by decide +kernel
theorem dL_law_2234 : decode cL_law 2234 = .ok (.iconst 1, 1) := by decide +kernel
theorem dL_law_2235 : decode cL_law 2235 = .ok (.iadd, 1) := by decide +kernel
theorem dL_law_2236 : decode cL_law 2236 = .ok (.iaload, 1) := by decide +kernel
theorem dL_law_2237 : decode cL_law 2237 = .ok (.i2c, 1) := by decide +kernel
theorem dL_law_2238 : decode cL_law 2238 = .ok (.invokevirtual 253, 3) := by decide +kernel
theorem dL_law_2241 : decode cL_law 2241 = .ok (.aload_n 2, 1) := by decide +kernel
theorem dL_law_2242 : decode cL_law 2242 = .ok (.aload_n 0, 1) := by decide +kernel
theorem dL_law_2243 : decode cL_law 2243 = .ok (.iload 5, 2) := by decide +kernel
theorem dL_law_2245 : decode cL_law 2245 = .ok (.iconst 1, 1) := by decide +kernel
theorem dL_law_2246 : decode cL_law 2246 = .ok (.iadd, 1) := by decide +kernel
theorem dL_law_2247 : decode cL_law 2247 = .ok (.iaload, 1) := by decide +kernel
theorem dL_law_2248 : decode cL_law 2248 = .ok (.i2c, 1) := by decide +kernel
theorem dL_law_2249 : decode cL_law 2249 = .ok (.invokevirtual 257, 3) := by decide +kernel
theorem dL_law_2252 : decode cL_law 2252 = .ok (.if_icmp .eq 163, 3) := by decide +kernel
theorem dL_law_2255 : decode cL_law 2255 = .ok (.iconst 0, 1) := by decide +kernel
theorem dL_law_2256 : decode cL_law 2256 = .ok (.ireturn, 1) := by decide +kernel
theorem dL_law_2257 : decode cL_law 2257 = .ok (.aload_n 1, 1) := by decide +kernel
theorem dL_law_2258 : decode cL_law 2258 = .ok (.invokevirtual 258, 3) := by decide +kernel
theorem dL_law_2261 : decode cL_law 2261 = .ok (.aload_n 2, 1) := by decide +kernel
theorem dL_law_2262 : decode cL_law 2262 = .ok (.invokevirtual 262, 3) := by decide +kernel
theorem dL_law_2265 : decode cL_law 2265 = .ok (.lcmp, 1) := by decide +kernel
theorem dL_law_2266 : decode cL_law 2266 = .ok (.ifCond .eq 149, 3) := by decide +kernel
theorem dL_law_2269 : decode cL_law 2269 = .ok (.iconst 0, 1) := by decide +kernel
theorem dL_law_2270 : decode cL_law 2270 = .ok (.ireturn, 1) := by decide +kernel
theorem dL_law_2271 : decode cL_law 2271 = .ok (.aload_n 1, 1) := by decide +kernel
theorem dL_law_2272 : decode cL_law 2272 = .ok (.aload 4, 2) := by decide +kernel
theorem dL_law_2274 : decode cL_law 2274 = .ok (.invokestatic 263, 3) := by decide +kernel
theorem dL_law_2277 : decode cL_law 2277 = .ok (.istore 6, 2) := by decide +kernel
theorem dL_law_2279 : decode cL_law 2279 = .ok (.aload_n 2, 1) := by decide +kernel
theorem dL_law_2280 : decode cL_law 2280 = .ok (.invokevirtual 266, 3) := by decide +kernel
theorem dL_law_2283 : decode cL_law 2283 = .ok (.fstore 7, 2) := by decide +kernel
theorem dL_law_2285 : decode cL_law 2285 = .ok (.aload_n 2, 1) := by decide +kernel
theorem dL_law_2286 : decode cL_law 2286 = .ok (.invokevirtual 139, 3) := by decide +kernel
theorem dL_law_2289 : decode cL_law 2289 = .ok (.iload 6, 2) := by decide +kernel
theorem dL_law_2291 : decode cL_law 2291 = .ok (.if_icmp .eq 5, 3) := by decide +kernel
theorem dL_law_2294 : decode cL_law 2294 = .ok (.iconst 0, 1) := by decide +kernel
theorem dL_law_2295 : decode cL_law 2295 = .ok (.ireturn, 1) := by decide +kernel
theorem dL_law_2296 : decode cL_law 2296 = .ok (.iload 6, 2) := by decide +kernel
theorem dL_law_2298 : decode cL_law 2298 = .ok (.ifCond .ne 36, 3) := by decide +kernel
theorem dL_law_2301 : decode cL_law 2301 = .ok (.aload 4, 2) := by decide +kernel
theorem dL_law_2303 : decode cL_law 2303 = .ok (.iconst 0, 1) := by decide +kernel
theorem dL_law_2304 : decode cL_law 2304 = .ok (.daload, 1) := by decide +kernel
theorem dL_law_2305 : decode cL_law 2305 = .ok (.fload 7, 2) := by decide +kernel
theorem dL_law_2307 : decode cL_law 2307 = .ok (.f2d, 1) := by decide +kernel
theorem dL_law_2308 : decode cL_law 2308 = .ok (.dcmp .l, 1) := by decide +kernel
theorem dL_law_2309 : decode cL_law 2309 = .ok (.ifCond .eq 25, 3) := by decide +kernel
theorem dL_law_2312 : decode cL_law 2312 = .ok (.aload 4, 2) := by decide +kernel
theorem dL_law_2314 : decode cL_law 2314 = .ok (.iconst 0, 1) := by decide +kernel
theorem dL_law_2315 : decode cL_law 2315 = .ok (.daload, 1) := by decide +kernel
theorem dL_law_2316 : decode cL_law 2316 = .ok (.aload 4, 2) := by decide +kernel
theorem dL_law_2318 : decode cL_law 2318 = .ok (.iconst 0, 1) := by decide +kernel
theorem dL_law_2319 : decode cL_law 2319 = .ok (.daload, 1) := by decide +kernel
theorem dL_law_2320 : decode cL_law 2320 = .ok (.dcmp .l, 1) := by decide +kernel
theorem dL_law_2321 : decode cL_law 2321 = .ok (.ifCond .eq 11, 3) := by decide +kernel
theorem dL_law_2324 : decode cL_law 2324 = .ok (.fload 7, 2) := by decide +kernel
theorem dL_law_2326 : decode cL_law 2326 = .ok (.fload 7, 2) := by decide +kernel
theorem dL_law_2328 : decode cL_law 2328 = .ok (.fcmp .l, 1) := by decide +kernel
theorem dL_law_2329 : decode cL_law 2329 = .ok (.ifCond .ne 5, 3) := by decide +kernel
theorem dL_law_2332 : decode cL_law 2332 = .ok (.iconst 0, 1) := by decide +kernel
theorem dL_law_2333 : decode cL_law 2333 = .ok (.ireturn, 1) := by decide +kernel
theorem dL_law_2334 : decode cL_law 2334 = .ok (.goto 81, 3) := by decide +kernel
theorem dL_law_2337 : decode cL_law 2337 = .ok (.aload_n 1, 1) := by decide +kernel
theorem dL_law_2338 : decode cL_law 2338 = .ok (.aload 4, 2) := by decide +kernel
theorem dL_law_2340 : decode cL_law 2340 = .ok (.invokestatic 267, 3) := by decide +kernel
theorem dL_law_2343 : decode cL_law 2343 = .ok (.istore 6, 2) := by decide +kernel
theorem dL_law_2345 : decode cL_law 2345 = .ok (.aload_n 2, 1) := by decide +kernel
theorem dL_law_2346 : decode cL_law 2346 = .ok (.invokevirtual 269, 3) := by decide +kernel
theorem dL_law_2349 : decode cL_law 2349 = .ok (.dstore 7, 2) := by decide +kernel
theorem dL_law_2351 : decode cL_law 2351 = .ok (.aload_n 2, 1) := by decide +kernel
theorem dL_law_2352 : decode cL_law 2352 = .ok (.invokevirtual 139, 3) := by decide +kernel
theorem dL_law_2355 : decode cL_law 2355 = .ok (.iload 6, 2) := by decide +kernel
theorem dL_law_2357 : decode cL_law 2357 = .ok (.if_icmp .eq 5, 3) := by decide +kernel
theorem dL_law_2360 : decode cL_law 2360 = .ok (.iconst 0, 1) := by decide +kernel
theorem dL_law_2361 : decode cL_law 2361 = .ok (.ireturn, 1) := by decide +kernel
theorem dL_law_2362 : decode cL_law 2362 = .ok (.iload 6, 2) := by decide +kernel
theorem dL_law_2364 : decode cL_law 2364 = .ok (.ifCond .ne 35, 3) := by decide +kernel
theorem dL_law_2367 : decode cL_law 2367 = .ok (.aload 4, 2) := by decide +kernel
theorem dL_law_2369 : decode cL_law 2369 = .ok (.iconst 0, 1) := by decide +kernel
theorem dL_law_2370 : decode cL_law 2370 = .ok (.daload, 1) := by decide +kernel
theorem dL_law_2371 : decode cL_law 2371 = .ok (.dload 7, 2) := by decide +kernel
theorem dL_law_2373 : decode cL_law 2373 = .ok (.dcmp .l, 1) := by decide +kernel
theorem dL_law_2374 : decode cL_law 2374 = .ok (.ifCond .eq 25, 3) := by decide +kernel
theorem dL_law_2377 : decode cL_law 2377 = .ok (.aload 4, 2) := by decide +kernel
theorem dL_law_2379 : decode cL_law 2379 = .ok (.iconst 0, 1) := by decide +kernel
theorem dL_law_2380 : decode cL_law 2380 = .ok (.daload, 1) := by decide +kernel
theorem dL_law_2381 : decode cL_law 2381 = .ok (.aload 4, 2) := by decide +kernel
theorem dL_law_2383 : decode cL_law 2383 = .ok (.iconst 0, 1) := by decide +kernel
theorem dL_law_2384 : decode cL_law 2384 = .ok (.daload, 1) := by decide +kernel
theorem dL_law_2385 : decode cL_law 2385 = .ok (.dcmp .l, 1) := by decide +kernel
theorem dL_law_2386 : decode cL_law 2386 = .ok (.ifCond .eq 11, 3) := by decide +kernel
theorem dL_law_2389 : decode cL_law 2389 = .ok (.dload 7, 2) := by decide +kernel
theorem dL_law_2391 : decode cL_law 2391 = .ok (.dload 7, 2) := by decide +kernel
theorem dL_law_2393 : decode cL_law 2393 = .ok (.dcmp .l, 1) := by decide +kernel
theorem dL_law_2394 : decode cL_law 2394 = .ok (.ifCond .ne 5, 3) := by decide +kernel
theorem dL_law_2397 : decode cL_law 2397 = .ok (.iconst 0, 1) := by decide +kernel
theorem dL_law_2398 : decode cL_law 2398 = .ok (.ireturn, 1) := by decide +kernel
theorem dL_law_2399 : decode cL_law 2399 = .ok (.goto 16, 3) := by decide +kernel
theorem dL_law_2402 : decode cL_law 2402 = .ok (.aload_n 1, 1) := by decide +kernel
theorem dL_law_2403 : decode cL_law 2403 = .ok (.invokevirtual 270, 3) := by decide +kernel
theorem dL_law_2406 : decode cL_law 2406 = .ok (.aload_n 2, 1) := by decide +kernel
theorem dL_law_2407 : decode cL_law 2407 = .ok (.invokevirtual 273, 3) := by decide +kernel
theorem dL_law_2410 : decode cL_law 2410 = .ok (.if_icmp .eq 5, 3) := by decide +kernel
theorem dL_law_2413 : decode cL_law 2413 = .ok (.iconst 0, 1) := by decide +kernel
theorem dL_law_2414 : decode cL_law 2414 = .ok (.ireturn, 1) := by decide +kernel
theorem dL_law_2415 : decode cL_law 2415 = .ok (.iinc 5 6, 3) := by decide +kernel
theorem dL_law_2418 : decode cL_law 2418 = .ok (.goto (-2390), 3) := by decide +kernel
theorem dL_law_2421 : decode cL_law 2421 = .ok (.iconst 1, 1) := by decide +kernel
theorem dL_law_2422 : decode cL_law 2422 = .ok (.ireturn, 1) := by decide +kernel
abbrev vwCl : List vw_C := [(RJ0, TJ0, 2), (RJ4, TJ4, 4), (RJx00060, TJx00060, 6), (RX0, TX0, 1), (RX1, TX1, 9), (RX2, TX2, 4), (RX3, TX3, 2), (RX4, TX4, 3), (RX5, TX5, 4), (RX6, TX6, 11), (RX7, TX7, 2), (RX8, TX8, 6), (RX9, TX9, 5), (RX10, TX10, 13), (RX11, TX11, 50)]
