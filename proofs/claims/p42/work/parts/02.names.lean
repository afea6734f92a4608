def RX0 : String := "LaunchRange$Boats"
def TX0 : u_T := fun k => match k with
  | _ => ("LaunchRange$Boats", "riskOf", "[I", true)
def tyX0 : Nat → FieldType := fun k => match k with
  | _ => .array .int
abbrev wsX00 : List Cond := u_ws RX0 TX0 1
theorem nmX0 : ∀ a, a < 1 → ∀ b, b < 1 → a ≠ b → (TX0 a).2.1 ≠ (TX0 b).2.1 := by decide +kernel
theorem tyX0_ok : ∀ k, k < 1 → parseFieldDescriptor (TX0 k).2.2.1 = some (tyX0 k) := by decide +kernel
abbrev cX0_init : ByteArray := prog_2_method_1_code
def yX0_init : MethodName := ⟨RX0, "<init>", "()V"⟩
abbrev cX0_tell : ByteArray := prog_2_method_2_code
def yX0_tell : MethodName := ⟨RX0, "tell", "(III)V"⟩
abbrev cX0_sumOfRisks : ByteArray := prog_2_method_3_code
def yX0_sumOfRisks : MethodName := ⟨RX0, "sumOfRisks", "()I"⟩
def RX1 : String := "LaunchRange$Countdown"
def TX1 : u_T := fun k => match k with
  | 0 => ("LaunchRange$Countdown", "at", "I", false)
  | 1 => ("LaunchRange$Countdown", "open", "I", false)
  | 2 => ("LaunchRange$Countdown", "shut", "I", false)
  | 3 => ("LaunchRange$Countdown", "secondsHeld", "I", false)
  | 4 => ("LaunchRange$Countdown", "heldHere", "I", false)
  | 5 => ("LaunchRange$Countdown", "cause", "C", false)
  | 6 => ("LaunchRange$Countdown", "causeRule", "I", false)
  | 7 => ("LaunchRange$Countdown", "firstCause", "C", false)
  | _ => ("LaunchRange$Countdown", "firstRule", "I", false)
def tyX1 : Nat → FieldType := fun k => match k with
  | 0 => .int
  | 1 => .int
  | 2 => .int
  | 3 => .int
  | 4 => .int
  | 5 => .char
  | 6 => .int
  | 7 => .char
  | _ => .int
abbrev wsX10 : List Cond := u_ws RX1 TX1 9
theorem nmX1 : ∀ a, a < 9 → ∀ b, b < 9 → a ≠ b → (TX1 a).2.1 ≠ (TX1 b).2.1 := by decide +kernel
theorem tyX1_ok : ∀ k, k < 9 → parseFieldDescriptor (TX1 k).2.2.1 = some (tyX1 k) := by decide +kernel
abbrev cX1_init : ByteArray := prog_3_method_1_code
def yX1_init : MethodName := ⟨RX1, "<init>", "()V"⟩
abbrev cX1_start : ByteArray := prog_3_method_2_code
def yX1_start : MethodName := ⟨RX1, "start", "(III)V"⟩
abbrev cX1_setBack : ByteArray := prog_3_method_3_code
def yX1_setBack : MethodName := ⟨RX1, "setBack", "(I)V"⟩
abbrev cX1_stay : ByteArray := prog_3_method_4_code
def yX1_stay : MethodName := ⟨RX1, "stay", "(CI)V"⟩
abbrev cX1_advance : ByteArray := prog_3_method_5_code
def yX1_advance : MethodName := ⟨RX1, "advance", "()V"⟩
abbrev cX1_blame : ByteArray := prog_3_method_6_code
def yX1_blame : MethodName := ⟨RX1, "blame", "(CI)V"⟩
abbrev cX1_blameFirstHold : ByteArray := prog_3_method_7_code
def yX1_blameFirstHold : MethodName := ⟨RX1, "blameFirstHold", "()V"⟩
abbrev cX1_isInWindow : ByteArray := prog_3_method_8_code
def yX1_isInWindow : MethodName := ⟨RX1, "isInWindow", "(I)Z"⟩
def RX2 : String := "LaunchRange$Flight"
def TX2 : u_T := fun k => match k with
  | 0 => ("LaunchRange$Flight", "off", "[I", true)
  | 1 => ("LaunchRange$Flight", "leftAt", "I", false)
  | 2 => ("LaunchRange$Flight", "secondsApart", "I", false)
  | _ => ("LaunchRange$Flight", "hadGoodRules", "Z", false)
def tyX2 : Nat → FieldType := fun k => match k with
  | 0 => .array .int
  | 1 => .int
  | 2 => .int
  | _ => .boolean
abbrev wsX20 : List Cond := u_ws RX2 TX2 4
theorem nmX2 : ∀ a, a < 4 → ∀ b, b < 4 → a ≠ b → (TX2 a).2.1 ≠ (TX2 b).2.1 := by decide +kernel
theorem tyX2_ok : ∀ k, k < 4 → parseFieldDescriptor (TX2 k).2.2.1 = some (tyX2 k) := by decide +kernel
abbrev cX2_init : ByteArray := prog_4_method_1_code
def yX2_init : MethodName := ⟨RX2, "<init>", "()V"⟩
abbrev cX2_leave : ByteArray := prog_4_method_2_code
def yX2_leave : MethodName := ⟨RX2, "leave", "(IZ)V"⟩
abbrev cX2_compareRadars : ByteArray := prog_4_method_3_code
def yX2_compareRadars : MethodName := ⟨RX2, "compareRadars", "()V"⟩
abbrev cX2_isFarOff : ByteArray := prog_4_method_4_code
def yX2_isFarOff : MethodName := ⟨RX2, "isFarOff", "()Z"⟩
def RX3 : String := "LaunchRange$Lightnings"
def TX3 : u_T := fun k => match k with
  | 0 => ("LaunchRange$Lightnings", "inSecond", "[I", true)
  | _ => ("LaunchRange$Lightnings", "near", "I", false)
def tyX3 : Nat → FieldType := fun k => match k with
  | 0 => .array .int
  | _ => .int
abbrev wsX30 : List Cond := u_ws RX3 TX3 2
theorem nmX3 : ∀ a, a < 2 → ∀ b, b < 2 → a ≠ b → (TX3 a).2.1 ≠ (TX3 b).2.1 := by decide +kernel
theorem tyX3_ok : ∀ k, k < 2 → parseFieldDescriptor (TX3 k).2.2.1 = some (tyX3 k) := by decide +kernel
abbrev cX3_init : ByteArray := prog_5_method_1_code
def yX3_init : MethodName := ⟨RX3, "<init>", "()V"⟩
abbrev cX3_tell : ByteArray := prog_5_method_2_code
def yX3_tell : MethodName := ⟨RX3, "tell", "(I)V"⟩
abbrev cX3_forgetOld : ByteArray := prog_5_method_3_code
def yX3_forgetOld : MethodName := ⟨RX3, "forgetOld", "(I)V"⟩
def RX4 : String := "LaunchRange$Log"
def TX4 : u_T := fun k => match k with
  | 0 => ("LaunchRange$Log", "text", "Ljava/lang/StringBuilder;", true)
  | 1 => ("LaunchRange$Log", "state", "C", false)
  | _ => ("LaunchRange$Log", "changes", "I", false)
def tyX4 : Nat → FieldType := fun k => match k with
  | 0 => .object "java/lang/StringBuilder"
  | 1 => .char
  | _ => .int
abbrev wsX40 : List Cond := u_ws RX4 TX4 3
theorem nmX4 : ∀ a, a < 3 → ∀ b, b < 3 → a ≠ b → (TX4 a).2.1 ≠ (TX4 b).2.1 := by decide +kernel
theorem tyX4_ok : ∀ k, k < 3 → parseFieldDescriptor (TX4 k).2.2.1 = some (tyX4 k) := by decide +kernel
abbrev cX4_init : ByteArray := prog_6_method_1_code
def yX4_init : MethodName := ⟨RX4, "<init>", "()V"⟩
abbrev cX4_change : ByteArray := prog_6_method_2_code
def yX4_change : MethodName := ⟨RX4, "change", "(ICC)V"⟩
abbrev cX4_timesOf : ByteArray := prog_6_method_3_code
def yX4_timesOf : MethodName := ⟨RX4, "timesOf", "(C)I"⟩
abbrev cX4_tellsAll : ByteArray := prog_6_method_4_code
def yX4_tellsAll : MethodName := ⟨RX4, "tellsAll", "()Z"⟩
abbrev cX4_lastTold : ByteArray := prog_6_method_5_code
def yX4_lastTold : MethodName := ⟨RX4, "lastTold", "()C"⟩
abbrev cX4_stateBehind : ByteArray := prog_6_method_6_code
def yX4_stateBehind : MethodName := ⟨RX4, "stateBehind", "(C)C"⟩
def RX5 : String := "LaunchRange$Marks"
def TX5 : u_T := fun k => match k with
  | 0 => ("LaunchRange$Marks", "count", "[I", true)
  | 1 => ("LaunchRange$Marks", "seconds", "[I", true)
  | 2 => ("LaunchRange$Marks", "steps", "[I", true)
  | _ => ("LaunchRange$Marks", "size", "I", false)
def tyX5 : Nat → FieldType := fun k => match k with
  | 0 => .array .int
  | 1 => .array .int
  | 2 => .array .int
  | _ => .int
abbrev wsX50 : List Cond := u_ws RX5 TX5 4
theorem nmX5 : ∀ a, a < 4 → ∀ b, b < 4 → a ≠ b → (TX5 a).2.1 ≠ (TX5 b).2.1 := by decide +kernel
theorem tyX5_ok : ∀ k, k < 4 → parseFieldDescriptor (TX5 k).2.2.1 = some (tyX5 k) := by decide +kernel
abbrev cX5_init : ByteArray := prog_7_method_1_code
def yX5_init : MethodName := ⟨RX5, "<init>", "()V"⟩
abbrev cX5_find : ByteArray := prog_7_method_2_code
def yX5_find : MethodName := ⟨RX5, "find", "(I)I"⟩
abbrev cX5_insert : ByteArray := prog_7_method_3_code
def yX5_insert : MethodName := ⟨RX5, "insert", "(III)V"⟩
abbrev cX5_keep : ByteArray := prog_7_method_4_code
def yX5_keep : MethodName := ⟨RX5, "keep", "(IILLaunchRange$Steps;)Z"⟩
def RX6 : String := "LaunchRange$Rules"
def TX6 : u_T := fun k => match k with
  | 0 => ("LaunchRange$Rules", "kind", "[C", true)
  | 1 => ("LaunchRange$Rules", "about", "[I", true)
  | 2 => ("LaunchRange$Rules", "least", "[I", true)
  | 3 => ("LaunchRange$Rules", "greatest", "[I", true)
  | 4 => ("LaunchRange$Rules", "seconds", "[I", true)
  | 5 => ("LaunchRange$Rules", "seen", "[I", true)
  | 6 => ("LaunchRange$Rules", "heldFor", "[I", true)
  | 7 => ("LaunchRange$Rules", "waivers", "[I", true)
  | 8 => ("LaunchRange$Rules", "waivedBy", "[I", true)
  | 9 => ("LaunchRange$Rules", "waivedUntil", "[I", true)
  | _ => ("LaunchRange$Rules", "size", "I", false)
def tyX6 : Nat → FieldType := fun k => match k with
  | 0 => .array .char
  | 1 => .array .int
  | 2 => .array .int
  | 3 => .array .int
  | 4 => .array .int
  | 5 => .array .int
  | 6 => .array .int
  | 7 => .array .int
  | 8 => .array .int
  | 9 => .array .int
  | _ => .int
abbrev wsX60 : List Cond := u_ws RX6 TX6 11
theorem nmX6 : ∀ a, a < 11 → ∀ b, b < 11 → a ≠ b → (TX6 a).2.1 ≠ (TX6 b).2.1 := by decide +kernel
theorem tyX6_ok : ∀ k, k < 11 → parseFieldDescriptor (TX6 k).2.2.1 = some (tyX6 k) := by decide +kernel
abbrev cX6_init : ByteArray := prog_8_method_1_code
def yX6_init : MethodName := ⟨RX6, "<init>", "()V"⟩
abbrev cX6_append : ByteArray := prog_8_method_2_code
def yX6_append : MethodName := ⟨RX6, "append", "(CIIII)I"⟩
abbrev cX6_lookAt : ByteArray := prog_8_method_3_code
def yX6_lookAt : MethodName := ⟨RX6, "lookAt", "(II)V"⟩
abbrev cX6_holdsBy : ByteArray := prog_8_method_4_code
def yX6_holdsBy : MethodName := ⟨RX6, "holdsBy", "(II)Z"⟩
abbrev cX6_isMetBy : ByteArray := prog_8_method_5_code
def yX6_isMetBy : MethodName := ⟨RX6, "isMetBy", "(II)Z"⟩
abbrev cX6_isWaivedAt : ByteArray := prog_8_method_6_code
def yX6_isWaivedAt : MethodName := ⟨RX6, "isWaivedAt", "(II)Z"⟩
abbrev cX6_firstNotMet : ByteArray := prog_8_method_7_code
def yX6_firstNotMet : MethodName := ⟨RX6, "firstNotMet", "(I)I"⟩
abbrev cX6_areGood : ByteArray := prog_8_method_8_code
def yX6_areGood : MethodName := ⟨RX6, "areGood", "(I)Z"⟩
abbrev cX6_isWaiver : ByteArray := prog_8_method_9_code
def yX6_isWaiver : MethodName := ⟨RX6, "isWaiver", "(II)Z"⟩
abbrev cX6_endWaivers : ByteArray := prog_8_method_10_code
def yX6_endWaivers : MethodName := ⟨RX6, "endWaivers", "()V"⟩
def RX7 : String := "LaunchRange$Sensors"
def TX7 : u_T := fun k => match k with
  | 0 => ("LaunchRange$Sensors", "told", "[I", true)
  | _ => ("LaunchRange$Sensors", "isOut", "[Z", true)
def tyX7 : Nat → FieldType := fun k => match k with
  | 0 => .array .int
  | _ => .array .boolean
abbrev wsX70 : List Cond := u_ws RX7 TX7 2
theorem nmX7 : ∀ a, a < 2 → ∀ b, b < 2 → a ≠ b → (TX7 a).2.1 ≠ (TX7 b).2.1 := by decide +kernel
theorem tyX7_ok : ∀ k, k < 2 → parseFieldDescriptor (TX7 k).2.2.1 = some (tyX7 k) := by decide +kernel
abbrev cX7_init : ByteArray := prog_9_method_1_code
def yX7_init : MethodName := ⟨RX7, "<init>", "()V"⟩
abbrev cX7_countThatCount : ByteArray := prog_9_method_2_code
def yX7_countThatCount : MethodName := ⟨RX7, "countThatCount", "(I)I"⟩
abbrev cX7_isLastOfThree : ByteArray := prog_9_method_3_code
def yX7_isLastOfThree : MethodName := ⟨RX7, "isLastOfThree", "(I)Z"⟩
abbrev cX7_tellTogether : ByteArray := prog_9_method_4_code
def yX7_tellTogether : MethodName := ⟨RX7, "tellTogether", "(I)I"⟩
def RX8 : String := "LaunchRange$Steps"
def TX8 : u_T := fun k => match k with
  | 0 => ("LaunchRange$Steps", "from", "[I", true)
  | 1 => ("LaunchRange$Steps", "seconds", "[I", true)
  | 2 => ("LaunchRange$Steps", "left", "[I", true)
  | 3 => ("LaunchRange$Steps", "behind", "[I", true)
  | 4 => ("LaunchRange$Steps", "state", "[C", true)
  | _ => ("LaunchRange$Steps", "size", "I", false)
def tyX8 : Nat → FieldType := fun k => match k with
  | 0 => .array .int
  | 1 => .array .int
  | 2 => .array .int
  | 3 => .array .int
  | 4 => .array .char
  | _ => .int
abbrev wsX80 : List Cond := u_ws RX8 TX8 6
theorem nmX8 : ∀ a, a < 6 → ∀ b, b < 6 → a ≠ b → (TX8 a).2.1 ≠ (TX8 b).2.1 := by decide +kernel
theorem tyX8_ok : ∀ k, k < 6 → parseFieldDescriptor (TX8 k).2.2.1 = some (tyX8 k) := by decide +kernel
abbrev cX8_init : ByteArray := prog_10_method_1_code
def yX8_init : MethodName := ⟨RX8, "<init>", "()V"⟩
abbrev cX8_append : ByteArray := prog_10_method_2_code
def yX8_append : MethodName := ⟨RX8, "append", "(II)I"⟩
abbrev cX8_putBehind : ByteArray := prog_10_method_3_code
def yX8_putBehind : MethodName := ⟨RX8, "putBehind", "(II)I"⟩
abbrev cX8_haveAll : ByteArray := prog_10_method_4_code
def yX8_haveAll : MethodName := ⟨RX8, "haveAll", "(I)Z"⟩
abbrev cX8_areDone : ByteArray := prog_10_method_5_code
def yX8_areDone : MethodName := ⟨RX8, "areDone", "(I)Z"⟩
abbrev cX8_doneOnes : ByteArray := prog_10_method_6_code
def yX8_doneOnes : MethodName := ⟨RX8, "doneOnes", "()I"⟩
abbrev cX8_startAgain : ByteArray := prog_10_method_7_code
def yX8_startAgain : MethodName := ⟨RX8, "startAgain", "()V"⟩
abbrev cX8_undoFrom : ByteArray := prog_10_method_8_code
def yX8_undoFrom : MethodName := ⟨RX8, "undoFrom", "(I)I"⟩
abbrev cX8_work : ByteArray := prog_10_method_9_code
def yX8_work : MethodName := ⟨RX8, "work", "(I)V"⟩
def RX9 : String := "LaunchRange$Tanks"
def TX9 : u_T := fun k => match k with
  | 0 => ("LaunchRange$Tanks", "room", "[I", true)
  | 1 => ("LaunchRange$Tanks", "rate", "[I", true)
  | 2 => ("LaunchRange$Tanks", "boil", "[I", true)
  | 3 => ("LaunchRange$Tanks", "amount", "[I", true)
  | _ => ("LaunchRange$Tanks", "isOpen", "[Z", true)
def tyX9 : Nat → FieldType := fun k => match k with
  | 0 => .array .int
  | 1 => .array .int
  | 2 => .array .int
  | 3 => .array .int
  | _ => .array .boolean
abbrev wsX90 : List Cond := u_ws RX9 TX9 5
theorem nmX9 : ∀ a, a < 5 → ∀ b, b < 5 → a ≠ b → (TX9 a).2.1 ≠ (TX9 b).2.1 := by decide +kernel
theorem tyX9_ok : ∀ k, k < 5 → parseFieldDescriptor (TX9 k).2.2.1 = some (tyX9 k) := by decide +kernel
abbrev cX9_init : ByteArray := prog_11_method_1_code
def yX9_init : MethodName := ⟨RX9, "<init>", "()V"⟩
abbrev cX9_define : ByteArray := prog_11_method_2_code
def yX9_define : MethodName := ⟨RX9, "define", "(IIII)I"⟩
abbrev cX9_takeOut : ByteArray := prog_11_method_3_code
def yX9_takeOut : MethodName := ⟨RX9, "takeOut", "(II)I"⟩
abbrev cX9_boilAndFill : ByteArray := prog_11_method_4_code
def yX9_boilAndFill : MethodName := ⟨RX9, "boilAndFill", "()V"⟩
abbrev cX9_areWithinRoom : ByteArray := prog_11_method_7_code
def yX9_areWithinRoom : MethodName := ⟨RX9, "areWithinRoom", "()Z"⟩
def RX10 : String := "LaunchRange"
def TX10 : u_T := fun k => match k with
  | 0 => ("LaunchRange", "tanks", "LLaunchRange$Tanks;", true)
  | 1 => ("LaunchRange", "steps", "LLaunchRange$Steps;", true)
  | 2 => ("LaunchRange", "marks", "LLaunchRange$Marks;", true)
  | 3 => ("LaunchRange", "sensors", "LLaunchRange$Sensors;", true)
  | 4 => ("LaunchRange", "lightnings", "LLaunchRange$Lightnings;", true)
  | 5 => ("LaunchRange", "boats", "LLaunchRange$Boats;", true)
  | 6 => ("LaunchRange", "rules", "LLaunchRange$Rules;", true)
  | 7 => ("LaunchRange", "countdown", "LLaunchRange$Countdown;", true)
  | 8 => ("LaunchRange", "flight", "LLaunchRange$Flight;", true)
  | 9 => ("LaunchRange", "log", "LLaunchRange$Log;", true)
  | 10 => ("LaunchRange", "saysGo", "[Z", true)
  | 11 => ("LaunchRange", "windNow", "I", false)
  | _ => ("LaunchRange", "now", "I", false)
def tyX10 : Nat → FieldType := fun k => match k with
  | 0 => .object "LaunchRange$Tanks"
  | 1 => .object "LaunchRange$Steps"
  | 2 => .object "LaunchRange$Marks"
  | 3 => .object "LaunchRange$Sensors"
  | 4 => .object "LaunchRange$Lightnings"
  | 5 => .object "LaunchRange$Boats"
  | 6 => .object "LaunchRange$Rules"
  | 7 => .object "LaunchRange$Countdown"
  | 8 => .object "LaunchRange$Flight"
  | 9 => .object "LaunchRange$Log"
  | 10 => .array .boolean
  | 11 => .int
  | _ => .int
abbrev wsX100 : List Cond := u_ws RX10 TX10 13
theorem nmX10 : ∀ a, a < 13 → ∀ b, b < 13 → a ≠ b → (TX10 a).2.1 ≠ (TX10 b).2.1 := by decide +kernel
theorem tyX10_ok : ∀ k, k < 13 → parseFieldDescriptor (TX10 k).2.2.1 = some (tyX10 k) := by decide +kernel
abbrev cX10_init : ByteArray := prog_1_method_1_code
def yX10_init : MethodName := ⟨RX10, "<init>", "()V"⟩
abbrev cX10_setTank : ByteArray := prog_1_method_2_code
def yX10_setTank : MethodName := ⟨RX10, "setTank", "(IIII)I"⟩
abbrev cX10_setValve : ByteArray := prog_1_method_3_code
def yX10_setValve : MethodName := ⟨RX10, "setValve", "(IZ)Z"⟩
abbrev cX10_drain : ByteArray := prog_1_method_4_code
def yX10_drain : MethodName := ⟨RX10, "drain", "(II)I"⟩
abbrev cX10_inTank : ByteArray := prog_1_method_5_code
def yX10_inTank : MethodName := ⟨RX10, "inTank", "(I)I"⟩
abbrev cX10_addStep : ByteArray := prog_1_method_6_code
def yX10_addStep : MethodName := ⟨RX10, "addStep", "(II)I"⟩
abbrev cX10_setAfter : ByteArray := prog_1_method_7_code
def yX10_setAfter : MethodName := ⟨RX10, "setAfter", "(II)I"⟩
abbrev cX10_stepState : ByteArray := prog_1_method_8_code
def yX10_stepState : MethodName := ⟨RX10, "stepState", "(I)C"⟩
abbrev cX10_addMark : ByteArray := prog_1_method_9_code
def yX10_addMark : MethodName := ⟨RX10, "addMark", "(III)I"⟩
abbrev cX10_sense : ByteArray := prog_1_method_10_code
def yX10_sense : MethodName := ⟨RX10, "sense", "(II)I"⟩
abbrev cX10_inhibit : ByteArray := prog_1_method_11_code
def yX10_inhibit : MethodName := ⟨RX10, "inhibit", "(IZ)I"⟩
abbrev cX10_setWind : ByteArray := prog_1_method_12_code
def yX10_setWind : MethodName := ⟨RX10, "setWind", "(I)I"⟩
abbrev cX10_strike : ByteArray := prog_1_method_13_code
def yX10_strike : MethodName := ⟨RX10, "strike", "(I)I"⟩
abbrev cX10_boat : ByteArray := prog_1_method_14_code
def yX10_boat : MethodName := ⟨RX10, "boat", "(III)I"⟩
abbrev cX10_addRule : ByteArray := prog_1_method_15_code
def yX10_addRule : MethodName := ⟨RX10, "addRule", "(CIIII)I"⟩
abbrev cX10_mayWaive : ByteArray := prog_1_method_16_code
def yX10_mayWaive : MethodName := ⟨RX10, "mayWaive", "(II)Z"⟩
abbrev cX10_waive : ByteArray := prog_1_method_17_code
def yX10_waive : MethodName := ⟨RX10, "waive", "(III)Z"⟩
abbrev cX10_go : ByteArray := prog_1_method_18_code
def yX10_go : MethodName := ⟨RX10, "go", "(IZ)Z"⟩
abbrev cX10_value : ByteArray := prog_1_method_19_code
def yX10_value : MethodName := ⟨RX10, "value", "(I)I"⟩
abbrev cX10_holdsFor : ByteArray := prog_1_method_20_code
def yX10_holdsFor : MethodName := ⟨RX10, "holdsFor", "(I)I"⟩
abbrev cX10_isMet : ByteArray := prog_1_method_21_code
def yX10_isMet : MethodName := ⟨RX10, "isMet", "(I)Z"⟩
abbrev cX10_begin : ByteArray := prog_1_method_22_code
def yX10_begin : MethodName := ⟨RX10, "begin", "(III)I"⟩
abbrev cX10_recycle : ByteArray := prog_1_method_23_code
def yX10_recycle : MethodName := ⟨RX10, "recycle", "(I)I"⟩
abbrev cX10_scrub : ByteArray := prog_1_method_24_code
def yX10_scrub : MethodName := ⟨RX10, "scrub", "()Z"⟩
abbrev cX10_pass : ByteArray := prog_1_method_25_code
def yX10_pass : MethodName := ⟨RX10, "pass", "(I)I"⟩
abbrev cX10_track : ByteArray := prog_1_method_26_code
def yX10_track : MethodName := ⟨RX10, "track", "(II)I"⟩
abbrev cX10_state : ByteArray := prog_1_method_27_code
def yX10_state : MethodName := ⟨RX10, "state", "()C"⟩
abbrev cX10_count : ByteArray := prog_1_method_28_code
def yX10_count : MethodName := ⟨RX10, "count", "()I"⟩
abbrev cX10_second : ByteArray := prog_1_method_29_code
def yX10_second : MethodName := ⟨RX10, "second", "()I"⟩
abbrev cX10_holds : ByteArray := prog_1_method_30_code
def yX10_holds : MethodName := ⟨RX10, "holds", "()I"⟩
abbrev cX10_cause : ByteArray := prog_1_method_31_code
def yX10_cause : MethodName := ⟨RX10, "cause", "()C"⟩
abbrev cX10_causeRule : ByteArray := prog_1_method_32_code
def yX10_causeRule : MethodName := ⟨RX10, "causeRule", "()I"⟩
abbrev cX10_risk : ByteArray := prog_1_method_33_code
def yX10_risk : MethodName := ⟨RX10, "risk", "()I"⟩
abbrev cX10_logLength : ByteArray := prog_1_method_34_code
def yX10_logLength : MethodName := ⟨RX10, "logLength", "()I"⟩
abbrev cX10_logAt : ByteArray := prog_1_method_35_code
def yX10_logAt : MethodName := ⟨RX10, "logAt", "(I)C"⟩
abbrev cX10_logged : ByteArray := prog_1_method_36_code
def yX10_logged : MethodName := ⟨RX10, "logged", "(C)I"⟩
abbrev cX10_isSound : ByteArray := prog_1_method_40_code
def yX10_isSound : MethodName := ⟨RX10, "isSound", "()Z"⟩
abbrev cX10_isWithin : ByteArray := prog_1_method_41_code
def yX10_isWithin : MethodName := ⟨RX10, "isWithin", "(III)Z"⟩
abbrev cX10_isBelow : ByteArray := prog_1_method_42_code
def yX10_isBelow : MethodName := ⟨RX10, "isBelow", "(II)Z"⟩
abbrev cX10_isThing : ByteArray := prog_1_method_43_code
def yX10_isThing : MethodName := ⟨RX10, "isThing", "(CI)Z"⟩
abbrev cX10_isCountOn : ByteArray := prog_1_method_44_code
def yX10_isCountOn : MethodName := ⟨RX10, "isCountOn", "()Z"⟩
abbrev cX10_hasLeft : ByteArray := prog_1_method_45_code
def yX10_hasLeft : MethodName := ⟨RX10, "hasLeft", "()Z"⟩
abbrev cX10_isPlanFixed : ByteArray := prog_1_method_46_code
def yX10_isPlanFixed : MethodName := ⟨RX10, "isPlanFixed", "()Z"⟩
abbrev cX10_isThereCause : ByteArray := prog_1_method_47_code
def yX10_isThereCause : MethodName := ⟨RX10, "isThereCause", "()Z"⟩
abbrev cX10_valueFor : ByteArray := prog_1_method_48_code
def yX10_valueFor : MethodName := ⟨RX10, "valueFor", "(I)I"⟩
abbrev cX10_isWaived : ByteArray := prog_1_method_49_code
def yX10_isWaived : MethodName := ⟨RX10, "isWaived", "(I)Z"⟩
abbrev cX10_isMetOrWaived : ByteArray := prog_1_method_50_code
def yX10_isMetOrWaived : MethodName := ⟨RX10, "isMetOrWaived", "(I)Z"⟩
abbrev cX10_goThroughSecond : ByteArray := prog_1_method_51_code
def yX10_goThroughSecond : MethodName := ⟨RX10, "goThroughSecond", "()V"⟩
abbrev cX10_countOn : ByteArray := prog_1_method_52_code
def yX10_countOn : MethodName := ⟨RX10, "countOn", "()V"⟩
abbrev cX10_hold : ByteArray := prog_1_method_53_code
def yX10_hold : MethodName := ⟨RX10, "hold", "(CI)V"⟩
abbrev cX10_goFurther : ByteArray := prog_1_method_54_code
def yX10_goFurther : MethodName := ⟨RX10, "goFurther", "()V"⟩
abbrev cX10_flyOn : ByteArray := prog_1_method_55_code
def yX10_flyOn : MethodName := ⟨RX10, "flyOn", "()V"⟩
abbrev cX10_destroy : ByteArray := prog_1_method_56_code
def yX10_destroy : MethodName := ⟨RX10, "destroy", "(C)V"⟩
def RX11 : String := "LaunchRangeModel"
def TX11 : u_T := fun k => match k with
  | _ => ("", "", "", false)
def tyX11 : Nat → FieldType := fun k => match k with
  | _ => .int
abbrev wsX110 : List Cond := u_ws RX11 TX11 0
theorem nmX11 : ∀ a, a < 0 → ∀ b, b < 0 → a ≠ b → (TX11 a).2.1 ≠ (TX11 b).2.1 := by decide +kernel
theorem tyX11_ok : ∀ k, k < 0 → parseFieldDescriptor (TX11 k).2.2.1 = some (tyX11 k) := by decide +kernel
def RJx145de : String := "java/io/Serializable"
def TJx145de : u_T := fun k => match k with
  | _ => ("", "", "", false)
def tyJx145de : Nat → FieldType := fun k => match k with
  | _ => .int
abbrev wsJx145de0 : List Cond := u_ws RJx145de TJx145de 0
theorem nmJx145de : ∀ a, a < 0 → ∀ b, b < 0 → a ≠ b → (TJx145de a).2.1 ≠ (TJx145de b).2.1 := by decide +kernel
theorem tyJx145de_ok : ∀ k, k < 0 → parseFieldDescriptor (TJx145de k).2.2.1 = some (tyJx145de k) := by decide +kernel
def RJ5 : String := "java/lang/AbstractStringBuilder"
def TJ5 : u_T := fun k => match k with
  | _ => ("", "", "", false)
def tyJ5 : Nat → FieldType := fun k => match k with
  | _ => .int
abbrev wsJ50 : List Cond := u_ws RJ5 TJ5 0
theorem nmJ5 : ∀ a, a < 0 → ∀ b, b < 0 → a ≠ b → (TJ5 a).2.1 ≠ (TJ5 b).2.1 := by decide +kernel
theorem tyJ5_ok : ∀ k, k < 0 → parseFieldDescriptor (TJ5 k).2.2.1 = some (tyJ5 k) := by decide +kernel
abbrev cJ5_init_d00df : ByteArray := prog_15_method_2_code
def yJ5_init_d00df : MethodName := ⟨RJ5, "<init>", "(I)V"⟩
abbrev cJ5_length_8abf5 : ByteArray := prog_15_method_6_code
def yJ5_length_8abf5 : MethodName := ⟨RJ5, "length", "()I"⟩
abbrev cJ5_ensureCapacityInternal_d00df : ByteArray := prog_15_method_9_code
def yJ5_ensureCapacityInternal_d00df : MethodName := ⟨RJ5, "ensureCapacityInternal", "(I)V"⟩
abbrev cJ5_newCapacity_0f7a4 : ByteArray := prog_15_method_10_code
def yJ5_newCapacity_0f7a4 : MethodName := ⟨RJ5, "newCapacity", "(I)I"⟩
abbrev cJ5_inflate_da8c8 : ByteArray := prog_15_method_11_code
def yJ5_inflate_da8c8 : MethodName := ⟨RJ5, "inflate", "()V"⟩
abbrev cJ5_charAt_5068e : ByteArray := prog_15_method_14_code
def yJ5_charAt_5068e : MethodName := ⟨RJ5, "charAt", "(I)C"⟩
abbrev cJ5_append_cf1ce : ByteArray := prog_15_method_22_code
def yJ5_append_cf1ce : MethodName := ⟨RJ5, "append", "(Ljava/lang/String;)Ljava/lang/AbstractStringBuilder;"⟩
abbrev cJ5_appendNull_278bc : ByteArray := prog_15_method_26_code
def yJ5_appendNull_278bc : MethodName := ⟨RJ5, "appendNull", "()Ljava/lang/AbstractStringBuilder;"⟩
abbrev cJ5_append_3fe6f : ByteArray := prog_15_method_31_code
def yJ5_append_3fe6f : MethodName := ⟨RJ5, "append", "(C)Ljava/lang/AbstractStringBuilder;"⟩
abbrev cJ5_append_c97b9 : ByteArray := prog_15_method_32_code
def yJ5_append_c97b9 : MethodName := ⟨RJ5, "append", "(I)Ljava/lang/AbstractStringBuilder;"⟩
abbrev cJ5_getValue_6d5f1 : ByteArray := prog_15_method_64_code
def yJ5_getValue_6d5f1 : MethodName := ⟨RJ5, "getValue", "()[B"⟩
abbrev cJ5_isLatin1_aae02 : ByteArray := prog_15_method_68_code
def yJ5_isLatin1_aae02 : MethodName := ⟨RJ5, "isLatin1", "()Z"⟩
abbrev cJ5_inflateIfNeededFor_a7421 : ByteArray := prog_15_method_71_code
def yJ5_inflateIfNeededFor_a7421 : MethodName := ⟨RJ5, "inflateIfNeededFor", "(Ljava/lang/String;)V"⟩
abbrev cJ5_putStringAt_47b60 : ByteArray := prog_15_method_73_code
def yJ5_putStringAt_47b60 : MethodName := ⟨RJ5, "putStringAt", "(ILjava/lang/String;)V"⟩
def RJx2cfe8 : String := "java/lang/Appendable"
def TJx2cfe8 : u_T := fun k => match k with
  | _ => ("", "", "", false)
def tyJx2cfe8 : Nat → FieldType := fun k => match k with
  | _ => .int
abbrev wsJx2cfe80 : List Cond := u_ws RJx2cfe8 TJx2cfe8 0
theorem nmJx2cfe8 : ∀ a, a < 0 → ∀ b, b < 0 → a ≠ b → (TJx2cfe8 a).2.1 ≠ (TJx2cfe8 b).2.1 := by decide +kernel
theorem tyJx2cfe8_ok : ∀ k, k < 0 → parseFieldDescriptor (TJx2cfe8 k).2.2.1 = some (tyJx2cfe8 k) := by decide +kernel
def RJx00060 : String := "java/lang/ArrayIndexOutOfBoundsException"
def TJx00060 : u_T := fun k => match k with
  | 0 => ("java/lang/Throwable", "backtrace", "Ljava/lang/Object;", false)
  | 1 => ("java/lang/Throwable", "detailMessage", "Ljava/lang/String;", false)
  | 2 => ("java/lang/Throwable", "cause", "Ljava/lang/Throwable;", false)
  | 3 => ("java/lang/Throwable", "stackTrace", "[Ljava/lang/StackTraceElement;", false)
  | 4 => ("java/lang/Throwable", "depth", "I", false)
  | _ => ("java/lang/Throwable", "suppressedExceptions", "Ljava/util/List;", false)
def tyJx00060 : Nat → FieldType := fun k => match k with
  | 0 => .object "java/lang/Object"
  | 1 => .object "java/lang/String"
  | 2 => .object "java/lang/Throwable"
  | 3 => .array (.object "java/lang/StackTraceElement")
  | 4 => .int
  | _ => .object "java/util/List"
abbrev wsJx000600 : List Cond := u_ws RJx00060 TJx00060 6
theorem nmJx00060 : ∀ a, a < 6 → ∀ b, b < 6 → a ≠ b → (TJx00060 a).2.1 ≠ (TJx00060 b).2.1 := by decide +kernel
theorem tyJx00060_ok : ∀ k, k < 6 → parseFieldDescriptor (TJx00060 k).2.2.1 = some (tyJx00060 k) := by decide +kernel
abbrev cJx00060_init_a7421 : ByteArray := prog_17_method_2_code
def yJx00060_init_a7421 : MethodName := ⟨RJx00060, "<init>", "(Ljava/lang/String;)V"⟩
def RJx9f9b0 : String := "java/lang/CharSequence"
def TJx9f9b0 : u_T := fun k => match k with
  | _ => ("", "", "", false)
def tyJx9f9b0 : Nat → FieldType := fun k => match k with
  | _ => .int
abbrev wsJx9f9b00 : List Cond := u_ws RJx9f9b0 TJx9f9b0 0
theorem nmJx9f9b0 : ∀ a, a < 0 → ∀ b, b < 0 → a ≠ b → (TJx9f9b0 a).2.1 ≠ (TJx9f9b0 b).2.1 := by decide +kernel
theorem tyJx9f9b0_ok : ∀ k, k < 0 → parseFieldDescriptor (TJx9f9b0 k).2.2.1 = some (tyJx9f9b0 k) := by decide +kernel
def RJ11 : String := "java/lang/Character"
def TJ11 : u_T := fun k => match k with
  | _ => ("", "", "", false)
def tyJ11 : Nat → FieldType := fun k => match k with
  | _ => .int
abbrev wsJ110 : List Cond := u_ws RJ11 TJ11 0
theorem nmJ11 : ∀ a, a < 0 → ∀ b, b < 0 → a ≠ b → (TJ11 a).2.1 ≠ (TJ11 b).2.1 := by decide +kernel
theorem tyJ11_ok : ∀ k, k < 0 → parseFieldDescriptor (TJ11 k).2.2.1 = some (tyJ11 k) := by decide +kernel
abbrev cJ11_isValidCodePoint_9a6ad : ByteArray := prog_19_method_11_code
def yJ11_isValidCodePoint_9a6ad : MethodName := ⟨RJ11, "isValidCodePoint", "(I)Z"⟩
abbrev cJ11_highSurrogate_5068e : ByteArray := prog_19_method_28_code
def yJ11_highSurrogate_5068e : MethodName := ⟨RJ11, "highSurrogate", "(I)C"⟩
abbrev cJ11_lowSurrogate_5068e : ByteArray := prog_19_method_29_code
def yJ11_lowSurrogate_5068e : MethodName := ⟨RJ11, "lowSurrogate", "(I)C"⟩
def RJx8e188 : String := "java/lang/Cloneable"
def TJx8e188 : u_T := fun k => match k with
  | _ => ("", "", "", false)
def tyJx8e188 : Nat → FieldType := fun k => match k with
  | _ => .int
abbrev wsJx8e1880 : List Cond := u_ws RJx8e188 TJx8e188 0
theorem nmJx8e188 : ∀ a, a < 0 → ∀ b, b < 0 → a ≠ b → (TJx8e188 a).2.1 ≠ (TJx8e188 b).2.1 := by decide +kernel
theorem tyJx8e188_ok : ∀ k, k < 0 → parseFieldDescriptor (TJx8e188 k).2.2.1 = some (tyJx8e188 k) := by decide +kernel
def RJxb160c : String := "java/lang/Comparable"
def TJxb160c : u_T := fun k => match k with
  | _ => ("", "", "", false)
def tyJxb160c : Nat → FieldType := fun k => match k with
  | _ => .int
abbrev wsJxb160c0 : List Cond := u_ws RJxb160c TJxb160c 0
theorem nmJxb160c : ∀ a, a < 0 → ∀ b, b < 0 → a ≠ b → (TJxb160c a).2.1 ≠ (TJxb160c b).2.1 := by decide +kernel
theorem tyJxb160c_ok : ∀ k, k < 0 → parseFieldDescriptor (TJxb160c k).2.2.1 = some (tyJxb160c k) := by decide +kernel
def RJ6 : String := "java/lang/Integer"
def TJ6 : u_T := fun k => match k with
  | _ => ("", "", "", false)
def tyJ6 : Nat → FieldType := fun k => match k with
  | _ => .int
abbrev wsJ60 : List Cond := u_ws RJ6 TJ6 0
theorem nmJ6 : ∀ a, a < 0 → ∀ b, b < 0 → a ≠ b → (TJ6 a).2.1 ≠ (TJ6 b).2.1 := by decide +kernel
theorem tyJ6_ok : ∀ k, k < 0 → parseFieldDescriptor (TJ6 k).2.2.1 = some (tyJ6 k) := by decide +kernel
abbrev cJ6_getChars_ba4f3 : ByteArray := prog_26_method_12_code
def yJ6_getChars_ba4f3 : MethodName := ⟨RJ6, "getChars", "(II[B)I"⟩
abbrev cJ6_stringSize_0f7a4 : ByteArray := prog_26_method_13_code
def yJ6_stringSize_0f7a4 : MethodName := ⟨RJ6, "stringSize", "(I)I"⟩
abbrev cJ6_bitCount_0f7a4 : ByteArray := prog_26_method_49_code
def yJ6_bitCount_0f7a4 : MethodName := ⟨RJ6, "bitCount", "(I)I"⟩
def RJ9 : String := "java/lang/Math"
def TJ9 : u_T := fun k => match k with
  | _ => ("", "", "", false)
def tyJ9 : Nat → FieldType := fun k => match k with
  | _ => .int
abbrev wsJ90 : List Cond := u_ws RJ9 TJ9 0
theorem nmJ9 : ∀ a, a < 0 → ∀ b, b < 0 → a ≠ b → (TJ9 a).2.1 ≠ (TJ9 b).2.1 := by decide +kernel
theorem tyJ9_ok : ∀ k, k < 0 → parseFieldDescriptor (TJ9 k).2.2.1 = some (tyJ9 k) := by decide +kernel
abbrev cJ9_abs_0f7a4 : ByteArray := prog_27_method_59_code
def yJ9_abs_0f7a4 : MethodName := ⟨RJ9, "abs", "(I)I"⟩
abbrev cJ9_max_7cf53 : ByteArray := prog_27_method_65_code
def yJ9_max_7cf53 : MethodName := ⟨RJ9, "max", "(II)I"⟩
abbrev cJ9_min_7cf53 : ByteArray := prog_27_method_69_code
def yJ9_min_7cf53 : MethodName := ⟨RJ9, "min", "(II)I"⟩
def RJxd2413 : String := "java/lang/Number"
def TJxd2413 : u_T := fun k => match k with
  | _ => ("", "", "", false)
def tyJxd2413 : Nat → FieldType := fun k => match k with
  | _ => .int
abbrev wsJxd24130 : List Cond := u_ws RJxd2413 TJxd2413 0
theorem nmJxd2413 : ∀ a, a < 0 → ∀ b, b < 0 → a ≠ b → (TJxd2413 a).2.1 ≠ (TJxd2413 b).2.1 := by decide +kernel
theorem tyJxd2413_ok : ∀ k, k < 0 → parseFieldDescriptor (TJxd2413 k).2.2.1 = some (tyJxd2413 k) := by decide +kernel
def RJ0 : String := "java/lang/String"
def TJ0 : u_T := fun k => match k with
  | 0 => ("java/lang/String", "value", "[B", true)
  | 1 => ("java/lang/String", "coder", "B", true)
  | 2 => ("java/lang/String", "hash", "I", false)
  | _ => ("java/lang/String", "hashIsZero", "Z", false)
def tyJ0 : Nat → FieldType := fun k => match k with
  | 0 => .array .byte
  | 1 => .byte
  | 2 => .int
  | _ => .boolean
abbrev wsJ00 : List Cond := u_ws RJ0 TJ0 4
theorem nmJ0 : ∀ a, a < 4 → ∀ b, b < 4 → a ≠ b → (TJ0 a).2.1 ≠ (TJ0 b).2.1 := by decide +kernel
theorem tyJ0_ok : ∀ k, k < 4 → parseFieldDescriptor (TJ0 k).2.2.1 = some (tyJ0 k) := by decide +kernel
abbrev cJ0_init_81219 : ByteArray := prog_30_method_53_code
def yJ0_init_81219 : MethodName := ⟨RJ0, "<init>", "(Ljava/lang/StringBuilder;)V"⟩
abbrev cJ0_length_8abf5 : ByteArray := prog_30_method_54_code
def yJ0_length_8abf5 : MethodName := ⟨RJ0, "length", "()I"⟩
abbrev cJ0_charAt_5068e : ByteArray := prog_30_method_56_code
def yJ0_charAt_5068e : MethodName := ⟨RJ0, "charAt", "(I)C"⟩
abbrev cJ0_indexOf_0f7a4 : ByteArray := prog_30_method_79_code
def yJ0_indexOf_0f7a4 : MethodName := ⟨RJ0, "indexOf", "(I)I"⟩
abbrev cJ0_indexOf_7cf53 : ByteArray := prog_30_method_80_code
def yJ0_indexOf_7cf53 : MethodName := ⟨RJ0, "indexOf", "(II)I"⟩
abbrev cJ0_getBytes_840e7 : ByteArray := prog_30_method_147_code
def yJ0_getBytes_840e7 : MethodName := ⟨RJ0, "getBytes", "([BIB)V"⟩
abbrev cJ0_init_db425 : ByteArray := prog_30_method_150_code
def yJ0_init_db425 : MethodName := ⟨RJ0, "<init>", "(Ljava/lang/AbstractStringBuilder;Ljava/lang/Void;)V"⟩
abbrev cJ0_coder_7d493 : ByteArray := prog_30_method_152_code
def yJ0_coder_7d493 : MethodName := ⟨RJ0, "coder", "()B"⟩
abbrev cJ0_isLatin1_aae02 : ByteArray := prog_30_method_154_code
def yJ0_isLatin1_aae02 : MethodName := ⟨RJ0, "isLatin1", "()Z"⟩
abbrev cJ0_checkIndex_df160 : ByteArray := prog_30_method_155_code
def yJ0_checkIndex_df160 : MethodName := ⟨RJ0, "checkIndex", "(II)V"⟩
abbrev cJ0_checkBoundsOffCount_cabcc : ByteArray := prog_30_method_157_code
def yJ0_checkBoundsOffCount_cabcc : MethodName := ⟨RJ0, "checkBoundsOffCount", "(III)I"⟩
abbrev cJ0_checkBoundsBeginEnd_23922 : ByteArray := prog_30_method_158_code
def yJ0_checkBoundsBeginEnd_23922 : MethodName := ⟨RJ0, "checkBoundsBeginEnd", "(III)V"⟩
def RJ4 : String := "java/lang/StringBuilder"
def TJ4 : u_T := fun k => match k with
  | 0 => ("java/lang/AbstractStringBuilder", "value", "[B", false)
  | 1 => ("java/lang/AbstractStringBuilder", "coder", "B", false)
  | 2 => ("java/lang/AbstractStringBuilder", "maybeLatin1", "Z", false)
  | _ => ("java/lang/AbstractStringBuilder", "count", "I", false)
def tyJ4 : Nat → FieldType := fun k => match k with
  | 0 => .array .byte
  | 1 => .byte
  | 2 => .boolean
  | _ => .int
abbrev wsJ40 : List Cond := u_ws RJ4 TJ4 4
theorem nmJ4 : ∀ a, a < 4 → ∀ b, b < 4 → a ≠ b → (TJ4 a).2.1 ≠ (TJ4 b).2.1 := by decide +kernel
theorem tyJ4_ok : ∀ k, k < 4 → parseFieldDescriptor (TJ4 k).2.2.1 = some (tyJ4 k) := by decide +kernel
abbrev cJ4_init_da8c8 : ByteArray := prog_31_method_1_code
def yJ4_init_da8c8 : MethodName := ⟨RJ4, "<init>", "()V"⟩
abbrev cJ4_append_15ec4 : ByteArray := prog_31_method_7_code
def yJ4_append_15ec4 : MethodName := ⟨RJ4, "append", "(Ljava/lang/String;)Ljava/lang/StringBuilder;"⟩
abbrev cJ4_append_cf468 : ByteArray := prog_31_method_14_code
def yJ4_append_cf468 : MethodName := ⟨RJ4, "append", "(C)Ljava/lang/StringBuilder;"⟩
abbrev cJ4_append_bf812 : ByteArray := prog_31_method_15_code
def yJ4_append_bf812 : MethodName := ⟨RJ4, "append", "(I)Ljava/lang/StringBuilder;"⟩
abbrev cJ4_toString_0e30d : ByteArray := prog_31_method_42_code
def yJ4_toString_0e30d : MethodName := ⟨RJ4, "toString", "()Ljava/lang/String;"⟩
abbrev cJ4_charAt_5068e : ByteArray := prog_31_method_88_code
def yJ4_charAt_5068e : MethodName := ⟨RJ4, "charAt", "(I)C"⟩
abbrev cJ4_length_8abf5 : ByteArray := prog_31_method_93_code
def yJ4_length_8abf5 : MethodName := ⟨RJ4, "length", "()I"⟩
def RJ1 : String := "java/lang/StringLatin1"
def TJ1 : u_T := fun k => match k with
  | _ => ("", "", "", false)
def tyJ1 : Nat → FieldType := fun k => match k with
  | _ => .int
abbrev wsJ10 : List Cond := u_ws RJ1 TJ1 0
theorem nmJ1 : ∀ a, a < 0 → ∀ b, b < 0 → a ≠ b → (TJ1 a).2.1 ≠ (TJ1 b).2.1 := by decide +kernel
theorem tyJ1_ok : ∀ k, k < 0 → parseFieldDescriptor (TJ1 k).2.2.1 = some (tyJ1 k) := by decide +kernel
abbrev cJ1_charAt_3b067 : ByteArray := prog_32_method_2_code
def yJ1_charAt_3b067 : MethodName := ⟨RJ1, "charAt", "([BI)C"⟩
abbrev cJ1_canEncode_fc78d : ByteArray := prog_32_method_3_code
def yJ1_canEncode_fc78d : MethodName := ⟨RJ1, "canEncode", "(C)Z"⟩
abbrev cJ1_canEncode_9a6ad : ByteArray := prog_32_method_4_code
def yJ1_canEncode_9a6ad : MethodName := ⟨RJ1, "canEncode", "(I)Z"⟩
abbrev cJ1_indexOf_4cfef : ByteArray := prog_32_method_22_code
def yJ1_indexOf_4cfef : MethodName := ⟨RJ1, "indexOf", "([BIII)I"⟩
abbrev cJ1_indexOfChar_4cfef : ByteArray := prog_32_method_23_code
def yJ1_indexOfChar_4cfef : MethodName := ⟨RJ1, "indexOfChar", "([BIII)I"⟩
abbrev cJ1_inflate_0e8fd : ByteArray := prog_32_method_50_code
def yJ1_inflate_0e8fd : MethodName := ⟨RJ1, "inflate", "([BI[BII)V"⟩
def RJ2 : String := "java/lang/StringUTF16"
def TJ2 : u_T := fun k => match k with
  | _ => ("", "", "", false)
def tyJ2 : Nat → FieldType := fun k => match k with
  | _ => .int
abbrev wsJ20 : List Cond := u_ws RJ2 TJ2 0
theorem nmJ2 : ∀ a, a < 0 → ∀ b, b < 0 → a ≠ b → (TJ2 a).2.1 ≠ (TJ2 b).2.1 := by decide +kernel
theorem tyJ2_ok : ∀ k, k < 0 → parseFieldDescriptor (TJ2 k).2.2.1 = some (tyJ2 k) := by decide +kernel
abbrev cJ2_newBytesFor_77867 : ByteArray := prog_33_method_2_code
def yJ2_newBytesFor_77867 : MethodName := ⟨RJ2, "newBytesFor", "(I)[B"⟩
abbrev cJ2_newBytesLength_0f7a4 : ByteArray := prog_33_method_3_code
def yJ2_newBytesLength_0f7a4 : MethodName := ⟨RJ2, "newBytesLength", "(I)I"⟩
abbrev cJ2_putChar_b72d1 : ByteArray := prog_33_method_4_code
def yJ2_putChar_b72d1 : MethodName := ⟨RJ2, "putChar", "([BII)V"⟩
abbrev cJ2_getChar_3b067 : ByteArray := prog_33_method_5_code
def yJ2_getChar_3b067 : MethodName := ⟨RJ2, "getChar", "([BI)C"⟩
abbrev cJ2_length_9d52b : ByteArray := prog_33_method_6_code
def yJ2_length_9d52b : MethodName := ⟨RJ2, "length", "([B)I"⟩
abbrev cJ2_coderFromArrayLen_85cad : ByteArray := prog_33_method_15_code
def yJ2_coderFromArrayLen_85cad : MethodName := ⟨RJ2, "coderFromArrayLen", "([BI)B"⟩
abbrev cJ2_compress_39247 : ByteArray := prog_33_method_17_code
def yJ2_compress_39247 : MethodName := ⟨RJ2, "compress", "([BII)[B"⟩
abbrev cJ2_compress_5af95 : ByteArray := prog_33_method_22_code
def yJ2_compress_5af95 : MethodName := ⟨RJ2, "compress", "([BI[BII)I"⟩
abbrev cJ2_indexOf_4cfef : ByteArray := prog_33_method_40_code
def yJ2_indexOf_4cfef : MethodName := ⟨RJ2, "indexOf", "([BIII)I"⟩
abbrev cJ2_indexOfChar_4cfef : ByteArray := prog_33_method_47_code
def yJ2_indexOfChar_4cfef : MethodName := ⟨RJ2, "indexOfChar", "([BIII)I"⟩
abbrev cJ2_indexOfCharUnsafe_4cfef : ByteArray := prog_33_method_48_code
def yJ2_indexOfCharUnsafe_4cfef : MethodName := ⟨RJ2, "indexOfCharUnsafe", "([BIII)I"⟩
abbrev cJ2_indexOfSupplementary_4cfef : ByteArray := prog_33_method_49_code
def yJ2_indexOfSupplementary_4cfef : MethodName := ⟨RJ2, "indexOfSupplementary", "([BIII)I"⟩
abbrev cJ2_putCharSB_b72d1 : ByteArray := prog_33_method_71_code
def yJ2_putCharSB_b72d1 : MethodName := ⟨RJ2, "putCharSB", "([BII)V"⟩
abbrev cJ2_getChars_46870 : ByteArray := prog_33_method_77_code
def yJ2_getChars_46870 : MethodName := ⟨RJ2, "getChars", "(III[B)I"⟩
abbrev cJ2_putCharsAt_cd4e5 : ByteArray := prog_33_method_81_code
def yJ2_putCharsAt_cd4e5 : MethodName := ⟨RJ2, "putCharsAt", "([BICCCC)I"⟩
abbrev cJ2_charAt_3b067 : ByteArray := prog_33_method_83_code
def yJ2_charAt_3b067 : MethodName := ⟨RJ2, "charAt", "([BI)C"⟩
abbrev cJ2_inflate_0e8fd : ByteArray := prog_33_method_86_code
def yJ2_inflate_0e8fd : MethodName := ⟨RJ2, "inflate", "([BI[BII)V"⟩
abbrev cJ2_getChars_ba4f3 : ByteArray := prog_33_method_89_code
def yJ2_getChars_ba4f3 : MethodName := ⟨RJ2, "getChars", "(II[B)I"⟩
abbrev cJ2_checkIndex_2214a : ByteArray := prog_33_method_91_code
def yJ2_checkIndex_2214a : MethodName := ⟨RJ2, "checkIndex", "(I[B)V"⟩
abbrev cJ2_checkBoundsBeginEnd_d044e : ByteArray := prog_33_method_93_code
def yJ2_checkBoundsBeginEnd_d044e : MethodName := ⟨RJ2, "checkBoundsBeginEnd", "(II[B)V"⟩
abbrev cJ2_checkBoundsOffCount_d044e : ByteArray := prog_33_method_94_code
def yJ2_checkBoundsOffCount_d044e : MethodName := ⟨RJ2, "checkBoundsOffCount", "(II[B)V"⟩
def RJ10 : String := "java/lang/System"
def TJ10 : u_T := fun k => match k with
  | _ => ("", "", "", false)
def tyJ10 : Nat → FieldType := fun k => match k with
  | _ => .int
abbrev wsJ100 : List Cond := u_ws RJ10 TJ10 0
theorem nmJ10 : ∀ a, a < 0 → ∀ b, b < 0 → a ≠ b → (TJ10 a).2.1 ≠ (TJ10 b).2.1 := by decide +kernel
theorem tyJ10_ok : ∀ k, k < 0 → parseFieldDescriptor (TJ10 k).2.2.1 = some (tyJ10 k) := by decide +kernel
def RJxfd54e : String := "java/lang/constant/Constable"
def TJxfd54e : u_T := fun k => match k with
  | _ => ("", "", "", false)
def tyJxfd54e : Nat → FieldType := fun k => match k with
  | _ => .int
abbrev wsJxfd54e0 : List Cond := u_ws RJxfd54e TJxfd54e 0
theorem nmJxfd54e : ∀ a, a < 0 → ∀ b, b < 0 → a ≠ b → (TJxfd54e a).2.1 ≠ (TJxfd54e b).2.1 := by decide +kernel
theorem tyJxfd54e_ok : ∀ k, k < 0 → parseFieldDescriptor (TJxfd54e k).2.2.1 = some (tyJxfd54e k) := by decide +kernel
def RJx3cf43 : String := "java/lang/constant/ConstantDesc"
def TJx3cf43 : u_T := fun k => match k with
  | _ => ("", "", "", false)
def tyJx3cf43 : Nat → FieldType := fun k => match k with
  | _ => .int
abbrev wsJx3cf430 : List Cond := u_ws RJx3cf43 TJx3cf43 0
theorem nmJx3cf43 : ∀ a, a < 0 → ∀ b, b < 0 → a ≠ b → (TJx3cf43 a).2.1 ≠ (TJx3cf43 b).2.1 := by decide +kernel
theorem tyJx3cf43_ok : ∀ k, k < 0 → parseFieldDescriptor (TJx3cf43 k).2.2.1 = some (tyJx3cf43 k) := by decide +kernel
def RJ7 : String := "java/util/Arrays"
def TJ7 : u_T := fun k => match k with
  | _ => ("", "", "", false)
def tyJ7 : Nat → FieldType := fun k => match k with
  | _ => .int
abbrev wsJ70 : List Cond := u_ws RJ7 TJ7 0
theorem nmJ7 : ∀ a, a < 0 → ∀ b, b < 0 → a ≠ b → (TJ7 a).2.1 ≠ (TJ7 b).2.1 := by decide +kernel
theorem tyJ7_ok : ∀ k, k < 0 → parseFieldDescriptor (TJ7 k).2.2.1 = some (tyJ7 k) := by decide +kernel
abbrev cJ7_copyOf_9075b : ByteArray := prog_39_method_121_code
def yJ7_copyOf_9075b : MethodName := ⟨RJ7, "copyOf", "([BI)[B"⟩
abbrev cJ7_checkLength_df160 : ByteArray := prog_39_method_131_code
def yJ7_checkLength_df160 : MethodName := ⟨RJ7, "checkLength", "(II)V"⟩
abbrev cJ7_copyOfRange_39247 : ByteArray := prog_39_method_132_code
def yJ7_copyOfRange_39247 : MethodName := ⟨RJ7, "copyOfRange", "([BII)[B"⟩
abbrev cJ7_copyOfRangeByte_39247 : ByteArray := prog_39_method_133_code
def yJ7_copyOfRangeByte_39247 : MethodName := ⟨RJ7, "copyOfRangeByte", "([BII)[B"⟩
def RJ8 : String := "jdk/internal/util/ArraysSupport"
def TJ8 : u_T := fun k => match k with
  | _ => ("", "", "", false)
def tyJ8 : Nat → FieldType := fun k => match k with
  | _ => .int
abbrev wsJ80 : List Cond := u_ws RJ8 TJ8 0
theorem nmJ8 : ∀ a, a < 0 → ∀ b, b < 0 → a ≠ b → (TJ8 a).2.1 ≠ (TJ8 b).2.1 := by decide +kernel
theorem tyJ8_ok : ∀ k, k < 0 → parseFieldDescriptor (TJ8 k).2.2.1 = some (tyJ8 k) := by decide +kernel
abbrev cJ8_newLength_cabcc : ByteArray := prog_41_method_27_code
def yJ8_newLength_cabcc : MethodName := ⟨RJ8, "newLength", "(III)I"⟩
abbrev cJ8_hugeLength_7cf53 : ByteArray := prog_41_method_28_code
def yJ8_hugeLength_7cf53 : MethodName := ⟨RJ8, "hugeLength", "(II)I"⟩
def RJ3 : String := "jdk/internal/util/Preconditions"
def TJ3 : u_T := fun k => match k with
  | _ => ("", "", "", false)
def tyJ3 : Nat → FieldType := fun k => match k with
  | _ => .int
abbrev wsJ30 : List Cond := u_ws RJ3 TJ3 0
theorem nmJ3 : ∀ a, a < 0 → ∀ b, b < 0 → a ≠ b → (TJ3 a).2.1 ≠ (TJ3 b).2.1 := by decide +kernel
theorem tyJ3_ok : ∀ k, k < 0 → parseFieldDescriptor (TJ3 k).2.2.1 = some (tyJ3 k) := by decide +kernel
abbrev cJ3_checkIndex_8e157 : ByteArray := prog_42_method_11_code
def yJ3_checkIndex_8e157 : MethodName := ⟨RJ3, "checkIndex", "(IILjava/util/function/BiFunction;)I"⟩
abbrev cJ3_checkFromToIndex_8c36e : ByteArray := prog_42_method_12_code
def yJ3_checkFromToIndex_8c36e : MethodName := ⟨RJ3, "checkFromToIndex", "(IIILjava/util/function/BiFunction;)I"⟩
abbrev cJ3_checkFromIndexSize_8c36e : ByteArray := prog_42_method_13_code
def yJ3_checkFromIndexSize_8c36e : MethodName := ⟨RJ3, "checkFromIndexSize", "(IIILjava/util/function/BiFunction;)I"⟩
def RL : String := "LaunchRangeLaw"
def TL : u_T := fun k => match k with
  | 0 => ("LaunchRangeLaw", "o", "LLaunchRange;", true)
  | 1 => ("LaunchRangeLaw", "waivedTo", "[I", true)
  | 2 => ("LaunchRangeLaw", "rooms", "[I", true)
  | 3 => ("LaunchRangeLaw", "rates", "[I", true)
  | 4 => ("LaunchRangeLaw", "boils", "[I", true)
  | 5 => ("LaunchRangeLaw", "valves", "[Z", true)
  | 6 => ("LaunchRangeLaw", "opens", "I", false)
  | 7 => ("LaunchRangeLaw", "shuts", "I", false)
  | _ => ("LaunchRangeLaw", "wasSetBack", "Z", false)
def tyL : Nat → FieldType := fun k => match k with
  | 0 => .object "LaunchRange"
  | 1 => .array .int
  | 2 => .array .int
  | 3 => .array .int
  | 4 => .array .int
  | 5 => .array .boolean
  | 6 => .int
  | 7 => .int
  | _ => .boolean
abbrev wsL0 : List Cond := u_ws RL TL 9
theorem nmL : ∀ a, a < 9 → ∀ b, b < 9 → a ≠ b → (TL a).2.1 ≠ (TL b).2.1 := by decide +kernel
theorem tyL_ok : ∀ k, k < 9 → parseFieldDescriptor (TL k).2.2.1 = some (tyL k) := by decide +kernel
abbrev cL_init : ByteArray := method_1_code
def yL_init : MethodName := ⟨RL, "<init>", "()V"⟩
abbrev cL_cell : ByteArray := method_2_code
def yL_cell : MethodName := ⟨RL, "cell", "([II)I"⟩
abbrev cL_pick : ByteArray := method_3_code
def yL_pick : MethodName := ⟨RL, "pick", "([III)I"⟩
abbrev cL_told : ByteArray := method_4_code
def yL_told : MethodName := ⟨RL, "told", "(Z)I"⟩
abbrev cL_done : ByteArray := method_5_code
def yL_done : MethodName := ⟨RL, "done", "(LLaunchRange;IIIIII)I"⟩
abbrev cL_asked : ByteArray := method_6_code
def yL_asked : MethodName := ⟨RL, "asked", "(LLaunchRange;II)I"⟩
abbrev cL_deed : ByteArray := method_7_code
def yL_deed : MethodName := ⟨RL, "deed", "(LLaunchRange;IIIIII)I"⟩
abbrev cL_ask : ByteArray := method_8_code
def yL_ask : MethodName := ⟨RL, "ask", "(LLaunchRange;III)I"⟩
abbrev cL_log : ByteArray := method_9_code
def yL_log : MethodName := ⟨RL, "log", "(LLaunchRange;)Ljava/lang/String;"⟩
abbrev cL_build : ByteArray := method_10_code
def yL_build : MethodName := ⟨RL, "build", "([I)V"⟩
abbrev cL_isWaivedAt : ByteArray := method_11_code
def yL_isWaivedAt : MethodName := ⟨RL, "isWaivedAt", "(II)Z"⟩
abbrev cL_areTanksRight : ByteArray := method_12_code
def yL_areTanksRight : MethodName := ⟨RL, "areTanksRight", "([I)Z"⟩
abbrev cL_isMetAt : ByteArray := method_13_code
def yL_isMetAt : MethodName := ⟨RL, "isMetAt", "([III)Z"⟩
abbrev cL_firstNotMet : ByteArray := method_14_code
def yL_firstNotMet : MethodName := ⟨RL, "firstNotMet", "([II)I"⟩
abbrev cL_isHeldRight : ByteArray := method_15_code
def yL_isHeldRight : MethodName := ⟨RL, "isHeldRight", "([II)Z"⟩
abbrev cL_passes : ByteArray := method_16_code
def yL_passes : MethodName := ⟨RL, "passes", "([I)Z"⟩
abbrev cL_areStepsRight : ByteArray := method_17_code
def yL_areStepsRight : MethodName := ⟨RL, "areStepsRight", "([I)Z"⟩
abbrev cL_begins : ByteArray := method_18_code
def yL_begins : MethodName := ⟨RL, "begins", "([II)Z"⟩
abbrev cL_happens : ByteArray := method_19_code
def yL_happens : MethodName := ⟨RL, "happens", "([II)Z"⟩
abbrev cL_isLogged : ByteArray := method_20_code
def yL_isLogged : MethodName := ⟨RL, "isLogged", "()Z"⟩
abbrev cL_holds : ByteArray := method_21_code
def yL_holds : MethodName := ⟨RL, "holds", "([I)Z"⟩
abbrev cL_law : ByteArray := code
def yL_law : MethodName := ⟨RL, "law", "([I)Z"⟩
theorem dX0_init_0 : decode cX0_init 0 = .ok (.aload_n 0, 1) := by decide +kernel
theorem dX0_init_1 : decode cX0_init 1 = .ok (.invokespecial 3, 3) := by decide +kernel
theorem dX0_init_4 : decode cX0_init 4 = .ok (.aload_n 0, 1) := by decide +kernel
theorem dX0_init_5 : decode cX0_init 5 = .ok (.bipush 8, 2) := by decide +kernel
theorem dX0_init_7 : decode cX0_init 7 = .ok (.newarray .int, 2) := by decide +kernel
theorem dX0_init_9 : decode cX0_init 9 = .ok (.putfield 9, 3) := by decide +kernel
theorem dX0_init_12 : decode cX0_init 12 = .ok (.return_, 1) := by decide +kernel
theorem dX0_tell_0 : decode cX0_tell 0 = .ok (.aload_n 0, 1) := by decide +kernel
theorem dX0_tell_1 : decode cX0_tell 1 = .ok (.getfield 9, 3) := by decide +kernel
theorem dX0_tell_4 : decode cX0_tell 4 = .ok (.iload_n 1, 1) := by decide +kernel
theorem dX0_tell_5 : decode cX0_tell 5 = .ok (.iload_n 2, 1) := by decide +kernel
theorem dX0_tell_6 : decode cX0_tell 6 = .ok (.iconst 0, 1) := by decide +kernel
theorem dX0_tell_7 : decode cX0_tell 7 = .ok (.bipush 100, 2) := by decide +kernel
theorem dX0_tell_9 : decode cX0_tell 9 = .ok (.bipush 10, 2) := by decide +kernel
theorem dX0_tell_11 : decode cX0_tell 11 = .ok (.iload_n 3, 1) := by decide +kernel
theorem dX0_tell_12 : decode cX0_tell 12 = .ok (.imul, 1) := by decide +kernel
theorem dX0_tell_13 : decode cX0_tell 13 = .ok (.isub, 1) := by decide +kernel
theorem dX0_tell_14 : decode cX0_tell 14 = .ok (.invokestatic 15, 3) := by decide +kernel
theorem dX0_tell_17 : decode cX0_tell 17 = .ok (.imul, 1) := by decide +kernel
theorem dX0_tell_18 : decode cX0_tell 18 = .ok (.iastore, 1) := by decide +kernel
theorem dX0_tell_19 : decode cX0_tell 19 = .ok (.return_, 1) := by decide +kernel
theorem dX0_sumOfRisks_0 : decode cX0_sumOfRisks 0 = .ok (.iconst 0, 1) := by decide +kernel
theorem dX0_sumOfRisks_1 : decode cX0_sumOfRisks 1 = .ok (.istore_n 1, 1) := by decide +kernel
theorem dX0_sumOfRisks_2 : decode cX0_sumOfRisks 2 = .ok (.iconst 0, 1) := by decide +kernel
theorem dX0_sumOfRisks_3 : decode cX0_sumOfRisks 3 = .ok (.istore_n 2, 1) := by decide +kernel
theorem dX0_sumOfRisks_4 : decode cX0_sumOfRisks 4 = .ok (.iload_n 2, 1) := by decide +kernel
theorem dX0_sumOfRisks_5 : decode cX0_sumOfRisks 5 = .ok (.bipush 8, 2) := by decide +kernel
theorem dX0_sumOfRisks_7 : decode cX0_sumOfRisks 7 = .ok (.if_icmp .ge 18, 3) := by decide +kernel
theorem dX0_sumOfRisks_10 : decode cX0_sumOfRisks 10 = .ok (.iload_n 1, 1) := by decide +kernel
theorem dX0_sumOfRisks_11 : decode cX0_sumOfRisks 11 = .ok (.aload_n 0, 1) := by decide +kernel
theorem dX0_sumOfRisks_12 : decode cX0_sumOfRisks 12 = .ok (.getfield 9, 3) := by decide +kernel
theorem dX0_sumOfRisks_15 : decode cX0_sumOfRisks 15 = .ok (.iload_n 2, 1) := by decide +kernel
theorem dX0_sumOfRisks_16 : decode cX0_sumOfRisks 16 = .ok (.iaload, 1) := by decide +kernel
theorem dX0_sumOfRisks_17 : decode cX0_sumOfRisks 17 = .ok (.iadd, 1) := by decide +kernel
theorem dX0_sumOfRisks_18 : decode cX0_sumOfRisks 18 = .ok (.istore_n 1, 1) := by decide +kernel
theorem dX0_sumOfRisks_19 : decode cX0_sumOfRisks 19 = .ok (.iinc 2 1, 3) := by decide +kernel
theorem dX0_sumOfRisks_22 : decode cX0_sumOfRisks 22 = .ok (.goto (-18), 3) := by decide +kernel
theorem dX0_sumOfRisks_25 : decode cX0_sumOfRisks 25 = .ok (.iload_n 1, 1) := by decide +kernel
theorem dX0_sumOfRisks_26 : decode cX0_sumOfRisks 26 = .ok (.ireturn, 1) := by decide +kernel
theorem dX1_init_0 : decode cX1_init 0 = .ok (.aload_n 0, 1) := by decide +kernel
theorem dX1_init_1 : decode cX1_init 1 = .ok (.invokespecial 3, 3) := by decide +kernel
theorem dX1_init_4 : decode cX1_init 4 = .ok (.aload_n 0, 1) := by decide +kernel
theorem dX1_init_5 : decode cX1_init 5 = .ok (.bipush 45, 2) := by decide +kernel
theorem dX1_init_7 : decode cX1_init 7 = .ok (.putfield 9, 3) := by decide +kernel
theorem dX1_init_10 : decode cX1_init 10 = .ok (.aload_n 0, 1) := by decide +kernel
theorem dX1_init_11 : decode cX1_init 11 = .ok (.iconst (-1), 1) := by decide +kernel
theorem dX1_init_12 : decode cX1_init 12 = .ok (.putfield 15, 3) := by decide +kernel
theorem dX1_init_15 : decode cX1_init 15 = .ok (.aload_n 0, 1) := by decide +kernel
theorem dX1_init_16 : decode cX1_init 16 = .ok (.bipush 45, 2) := by decide +kernel
theorem dX1_init_18 : decode cX1_init 18 = .ok (.putfield 19, 3) := by decide +kernel
theorem dX1_init_21 : decode cX1_init 21 = .ok (.aload_n 0, 1) := by decide +kernel
theorem dX1_init_22 : decode cX1_init 22 = .ok (.iconst (-1), 1) := by decide +kernel
theorem dX1_init_23 : decode cX1_init 23 = .ok (.putfield 22, 3) := by decide +kernel
theorem dX1_init_26 : decode cX1_init 26 = .ok (.return_, 1) := by decide +kernel
theorem dX1_start_0 : decode cX1_start 0 = .ok (.aload_n 0, 1) := by decide +kernel
theorem dX1_start_1 : decode cX1_start 1 = .ok (.iload_n 1, 1) := by decide +kernel
theorem dX1_start_2 : decode cX1_start 2 = .ok (.putfield 25, 3) := by decide +kernel
theorem dX1_start_5 : decode cX1_start 5 = .ok (.aload_n 0, 1) := by decide +kernel
theorem dX1_start_6 : decode cX1_start 6 = .ok (.iload_n 2, 1) := by decide +kernel
theorem dX1_start_7 : decode cX1_start 7 = .ok (.putfield 28, 3) := by decide +kernel
theorem dX1_start_10 : decode cX1_start 10 = .ok (.aload_n 0, 1) := by decide +kernel
theorem dX1_start_11 : decode cX1_start 11 = .ok (.iload_n 3, 1) := by decide +kernel
theorem dX1_start_12 : decode cX1_start 12 = .ok (.putfield 31, 3) := by decide +kernel
theorem dX1_start_15 : decode cX1_start 15 = .ok (.aload_n 0, 1) := by decide +kernel
theorem dX1_start_16 : decode cX1_start 16 = .ok (.iconst 0, 1) := by decide +kernel
theorem dX1_start_17 : decode cX1_start 17 = .ok (.putfield 34, 3) := by decide +kernel
theorem dX1_start_20 : decode cX1_start 20 = .ok (.aload_n 0, 1) := by decide +kernel
theorem dX1_start_21 : decode cX1_start 21 = .ok (.iconst 0, 1) := by decide +kernel
theorem dX1_start_22 : decode cX1_start 22 = .ok (.putfield 37, 3) := by decide +kernel
theorem dX1_start_25 : decode cX1_start 25 = .ok (.aload_n 0, 1) := by decide +kernel
theorem dX1_start_26 : decode cX1_start 26 = .ok (.bipush 45, 2) := by decide +kernel
theorem dX1_start_28 : decode cX1_start 28 = .ok (.putfield 19, 3) := by decide +kernel
theorem dX1_start_31 : decode cX1_start 31 = .ok (.aload_n 0, 1) := by decide +kernel
theorem dX1_start_32 : decode cX1_start 32 = .ok (.iconst (-1), 1) := by decide +kernel
theorem dX1_start_33 : decode cX1_start 33 = .ok (.putfield 22, 3) := by decide +kernel
theorem dX1_start_36 : decode cX1_start 36 = .ok (.return_, 1) := by decide +kernel
theorem dX1_setBack_0 : decode cX1_setBack 0 = .ok (.aload_n 0, 1) := by decide +kernel
theorem dX1_setBack_1 : decode cX1_setBack 1 = .ok (.iload_n 1, 1) := by decide +kernel
theorem dX1_setBack_2 : decode cX1_setBack 2 = .ok (.putfield 25, 3) := by decide +kernel
theorem dX1_setBack_5 : decode cX1_setBack 5 = .ok (.aload_n 0, 1) := by decide +kernel
theorem dX1_setBack_6 : decode cX1_setBack 6 = .ok (.iconst 0, 1) := by decide +kernel
theorem dX1_setBack_7 : decode cX1_setBack 7 = .ok (.putfield 37, 3) := by decide +kernel
theorem dX1_setBack_10 : decode cX1_setBack 10 = .ok (.return_, 1) := by decide +kernel
theorem dX1_stay_0 : decode cX1_stay 0 = .ok (.aload_n 0, 1) := by decide +kernel
theorem dX1_stay_1 : decode cX1_stay 1 = .ok (.iload_n 1, 1) := by decide +kernel
theorem dX1_stay_2 : decode cX1_stay 2 = .ok (.iload_n 2, 1) := by decide +kernel
theorem dX1_stay_3 : decode cX1_stay 3 = .ok (.invokevirtual 40, 3) := by decide +kernel
theorem dX1_stay_6 : decode cX1_stay 6 = .ok (.aload_n 0, 1) := by decide +kernel
theorem dX1_stay_7 : decode cX1_stay 7 = .ok (.getfield 19, 3) := by decide +kernel
theorem dX1_stay_10 : decode cX1_stay 10 = .ok (.bipush 45, 2) := by decide +kernel
theorem dX1_stay_12 : decode cX1_stay 12 = .ok (.if_icmp .ne 13, 3) := by decide +kernel
theorem dX1_stay_15 : decode cX1_stay 15 = .ok (.aload_n 0, 1) := by decide +kernel
theorem dX1_stay_16 : decode cX1_stay 16 = .ok (.iload_n 1, 1) := by decide +kernel
theorem dX1_stay_17 : decode cX1_stay 17 = .ok (.putfield 19, 3) := by decide +kernel
theorem dX1_stay_20 : decode cX1_stay 20 = .ok (.aload_n 0, 1) := by decide +kernel
theorem dX1_stay_21 : decode cX1_stay 21 = .ok (.iload_n 2, 1) := by decide +kernel
theorem dX1_stay_22 : decode cX1_stay 22 = .ok (.putfield 22, 3) := by decide +kernel
theorem dX1_stay_25 : decode cX1_stay 25 = .ok (.aload_n 0, 1) := by decide +kernel
theorem dX1_stay_26 : decode cX1_stay 26 = .ok (.dup, 1) := by decide +kernel
theorem dX1_stay_27 : decode cX1_stay 27 = .ok (.getfield 34, 3) := by decide +kernel
theorem dX1_stay_30 : decode cX1_stay 30 = .ok (.iconst 1, 1) := by decide +kernel
theorem dX1_stay_31 : decode cX1_stay 31 = .ok (.iadd, 1) := by decide +kernel
theorem dX1_stay_32 : decode cX1_stay 32 = .ok (.putfield 34, 3) := by decide +kernel
theorem dX1_stay_35 : decode cX1_stay 35 = .ok (.aload_n 0, 1) := by decide +kernel
theorem dX1_stay_36 : decode cX1_stay 36 = .ok (.dup, 1) := by decide +kernel
theorem dX1_stay_37 : decode cX1_stay 37 = .ok (.getfield 37, 3) := by decide +kernel
theorem dX1_stay_40 : decode cX1_stay 40 = .ok (.iconst 1, 1) := by decide +kernel
theorem dX1_stay_41 : decode cX1_stay 41 = .ok (.iadd, 1) := by decide +kernel
theorem dX1_stay_42 : decode cX1_stay 42 = .ok (.putfield 37, 3) := by decide +kernel
theorem dX1_stay_45 : decode cX1_stay 45 = .ok (.return_, 1) := by decide +kernel
theorem dX1_advance_0 : decode cX1_advance 0 = .ok (.aload_n 0, 1) := by decide +kernel
theorem dX1_advance_1 : decode cX1_advance 1 = .ok (.dup, 1) := by decide +kernel
theorem dX1_advance_2 : decode cX1_advance 2 = .ok (.getfield 25, 3) := by decide +kernel
theorem dX1_advance_5 : decode cX1_advance 5 = .ok (.iconst 1, 1) := by decide +kernel
theorem dX1_advance_6 : decode cX1_advance 6 = .ok (.iadd, 1) := by decide +kernel
theorem dX1_advance_7 : decode cX1_advance 7 = .ok (.putfield 25, 3) := by decide +kernel
theorem dX1_advance_10 : decode cX1_advance 10 = .ok (.aload_n 0, 1) := by decide +kernel
theorem dX1_advance_11 : decode cX1_advance 11 = .ok (.iconst 0, 1) := by decide +kernel
theorem dX1_advance_12 : decode cX1_advance 12 = .ok (.putfield 37, 3) := by decide +kernel
theorem dX1_advance_15 : decode cX1_advance 15 = .ok (.return_, 1) := by decide +kernel
theorem dX1_blame_0 : decode cX1_blame 0 = .ok (.aload_n 0, 1) := by decide +kernel
theorem dX1_blame_1 : decode cX1_blame 1 = .ok (.iload_n 1, 1) := by decide +kernel
theorem dX1_blame_2 : decode cX1_blame 2 = .ok (.putfield 9, 3) := by decide +kernel
theorem dX1_blame_5 : decode cX1_blame 5 = .ok (.aload_n 0, 1) := by decide +kernel
theorem dX1_blame_6 : decode cX1_blame 6 = .ok (.iload_n 2, 1) := by decide +kernel
theorem dX1_blame_7 : decode cX1_blame 7 = .ok (.putfield 15, 3) := by decide +kernel
theorem dX1_blame_10 : decode cX1_blame 10 = .ok (.return_, 1) := by decide +kernel
theorem dX1_blameFirstHold_0 : decode cX1_blameFirstHold 0 = .ok (.aload_n 0, 1) := by decide +kernel
theorem dX1_blameFirstHold_1 : decode cX1_blameFirstHold 1 = .ok (.aload_n 0, 1) := by decide +kernel
theorem dX1_blameFirstHold_2 : decode cX1_blameFirstHold 2 = .ok (.getfield 19, 3) := by decide +kernel
theorem dX1_blameFirstHold_5 : decode cX1_blameFirstHold 5 = .ok (.bipush 45, 2) := by decide +kernel
theorem dX1_blameFirstHold_7 : decode cX1_blameFirstHold 7 = .ok (.if_icmp .ne 8, 3) := by decide +kernel
theorem dX1_blameFirstHold_10 : decode cX1_blameFirstHold 10 = .ok (.bipush 111, 2) := by decide +kernel
theorem dX1_blameFirstHold_12 : decode cX1_blameFirstHold 12 = .ok (.goto 7, 3) := by decide +kernel
theorem dX1_blameFirstHold_15 : decode cX1_blameFirstHold 15 = .ok (.aload_n 0, 1) := by decide +kernel
theorem dX1_blameFirstHold_16 : decode cX1_blameFirstHold 16 = .ok (.getfield 19, 3) := by decide +kernel
theorem dX1_blameFirstHold_19 : decode cX1_blameFirstHold 19 = .ok (.aload_n 0, 1) := by decide +kernel
theorem dX1_blameFirstHold_20 : decode cX1_blameFirstHold 20 = .ok (.getfield 22, 3) := by decide +kernel
theorem dX1_blameFirstHold_23 : decode cX1_blameFirstHold 23 = .ok (.invokevirtual 40, 3) := by decide +kernel
theorem dX1_blameFirstHold_26 : decode cX1_blameFirstHold 26 = .ok (.return_, 1) := by decide +kernel
theorem dX1_isInWindow_0 : decode cX1_isInWindow 0 = .ok (.iload_n 1, 1) := by decide +kernel
theorem dX1_isInWindow_1 : decode cX1_isInWindow 1 = .ok (.aload_n 0, 1) := by decide +kernel
theorem dX1_isInWindow_2 : decode cX1_isInWindow 2 = .ok (.getfield 28, 3) := by decide +kernel
theorem dX1_isInWindow_5 : decode cX1_isInWindow 5 = .ok (.aload_n 0, 1) := by decide +kernel
theorem dX1_isInWindow_6 : decode cX1_isInWindow 6 = .ok (.getfield 31, 3) := by decide +kernel
theorem dX1_isInWindow_9 : decode cX1_isInWindow 9 = .ok (.invokestatic 44, 3) := by decide +kernel
theorem dX1_isInWindow_12 : decode cX1_isInWindow 12 = .ok (.ireturn, 1) := by decide +kernel
theorem dX2_init_0 : decode cX2_init 0 = .ok (.aload_n 0, 1) := by decide +kernel
theorem dX2_init_1 : decode cX2_init 1 = .ok (.invokespecial 3, 3) := by decide +kernel
theorem dX2_init_4 : decode cX2_init 4 = .ok (.aload_n 0, 1) := by decide +kernel
theorem dX2_init_5 : decode cX2_init 5 = .ok (.iconst 2, 1) := by decide +kernel
theorem dX2_init_6 : decode cX2_init 6 = .ok (.newarray .int, 2) := by decide +kernel
theorem dX2_init_8 : decode cX2_init 8 = .ok (.putfield 9, 3) := by decide +kernel
theorem dX2_init_11 : decode cX2_init 11 = .ok (.return_, 1) := by decide +kernel
theorem dX2_leave_0 : decode cX2_leave 0 = .ok (.aload_n 0, 1) := by decide +kernel
theorem dX2_leave_1 : decode cX2_leave 1 = .ok (.iload_n 1, 1) := by decide +kernel
theorem dX2_leave_2 : decode cX2_leave 2 = .ok (.putfield 15, 3) := by decide +kernel
theorem dX2_leave_5 : decode cX2_leave 5 = .ok (.aload_n 0, 1) := by decide +kernel
theorem dX2_leave_6 : decode cX2_leave 6 = .ok (.iload_n 2, 1) := by decide +kernel
theorem dX2_leave_7 : decode cX2_leave 7 = .ok (.putfield 19, 3) := by decide +kernel
theorem dX2_leave_10 : decode cX2_leave 10 = .ok (.return_, 1) := by decide +kernel
theorem dX2_compareRadars_0 : decode cX2_compareRadars 0 = .ok (.aload_n 0, 1) := by decide +kernel
theorem dX2_compareRadars_1 : decode cX2_compareRadars 1 = .ok (.aload_n 0, 1) := by decide +kernel
theorem dX2_compareRadars_2 : decode cX2_compareRadars 2 = .ok (.getfield 9, 3) := by decide +kernel
theorem dX2_compareRadars_5 : decode cX2_compareRadars 5 = .ok (.iconst 0, 1) := by decide +kernel
theorem dX2_compareRadars_6 : decode cX2_compareRadars 6 = .ok (.iaload, 1) := by decide +kernel
theorem dX2_compareRadars_7 : decode cX2_compareRadars 7 = .ok (.aload_n 0, 1) := by decide +kernel
theorem dX2_compareRadars_8 : decode cX2_compareRadars 8 = .ok (.getfield 9, 3) := by decide +kernel
theorem dX2_compareRadars_11 : decode cX2_compareRadars 11 = .ok (.iconst 1, 1) := by decide +kernel
theorem dX2_compareRadars_12 : decode cX2_compareRadars 12 = .ok (.iaload, 1) := by decide +kernel
theorem dX2_compareRadars_13 : decode cX2_compareRadars 13 = .ok (.isub, 1) := by decide +kernel
theorem dX2_compareRadars_14 : decode cX2_compareRadars 14 = .ok (.invokestatic 23, 3) := by decide +kernel
theorem dX2_compareRadars_17 : decode cX2_compareRadars 17 = .ok (.bipush 20, 2) := by decide +kernel
theorem dX2_compareRadars_19 : decode cX2_compareRadars 19 = .ok (.if_icmp .le 12, 3) := by decide +kernel
theorem dX2_compareRadars_22 : decode cX2_compareRadars 22 = .ok (.aload_n 0, 1) := by decide +kernel
theorem dX2_compareRadars_23 : decode cX2_compareRadars 23 = .ok (.getfield 29, 3) := by decide +kernel
theorem dX2_compareRadars_26 : decode cX2_compareRadars 26 = .ok (.iconst 1, 1) := by decide +kernel
theorem dX2_compareRadars_27 : decode cX2_compareRadars 27 = .ok (.iadd, 1) := by decide +kernel
theorem dX2_compareRadars_28 : decode cX2_compareRadars 28 = .ok (.goto 4, 3) := by decide +kernel
theorem dX2_compareRadars_31 : decode cX2_compareRadars 31 = .ok (.iconst 0, 1) := by decide +kernel
theorem dX2_compareRadars_32 : decode cX2_compareRadars 32 = .ok (.putfield 29, 3) := by decide +kernel
theorem dX2_compareRadars_35 : decode cX2_compareRadars 35 = .ok (.return_, 1) := by decide +kernel
theorem dX2_isFarOff_0 : decode cX2_isFarOff 0 = .ok (.aload_n 0, 1) := by decide +kernel
theorem dX2_isFarOff_1 : decode cX2_isFarOff 1 = .ok (.getfield 9, 3) := by decide +kernel
theorem dX2_isFarOff_4 : decode cX2_isFarOff 4 = .ok (.iconst 0, 1) := by decide +kernel
theorem dX2_isFarOff_5 : decode cX2_isFarOff 5 = .ok (.iaload, 1) := by decide +kernel
theorem dX2_isFarOff_6 : decode cX2_isFarOff 6 = .ok (.invokestatic 23, 3) := by decide +kernel
theorem dX2_isFarOff_9 : decode cX2_isFarOff 9 = .ok (.bipush 100, 2) := by decide +kernel
theorem dX2_isFarOff_11 : decode cX2_isFarOff 11 = .ok (.if_icmp .le 21, 3) := by decide +kernel
theorem dX2_isFarOff_14 : decode cX2_isFarOff 14 = .ok (.aload_n 0, 1) := by decide +kernel
theorem dX2_isFarOff_15 : decode cX2_isFarOff 15 = .ok (.getfield 9, 3) := by decide +kernel
theorem dX2_isFarOff_18 : decode cX2_isFarOff 18 = .ok (.iconst 1, 1) := by decide +kernel
theorem dX2_isFarOff_19 : decode cX2_isFarOff 19 = .ok (.iaload, 1) := by decide +kernel
theorem dX2_isFarOff_20 : decode cX2_isFarOff 20 = .ok (.invokestatic 23, 3) := by decide +kernel
theorem dX2_isFarOff_23 : decode cX2_isFarOff 23 = .ok (.bipush 100, 2) := by decide +kernel
theorem dX2_isFarOff_25 : decode cX2_isFarOff 25 = .ok (.if_icmp .le 7, 3) := by decide +kernel
theorem dX2_isFarOff_28 : decode cX2_isFarOff 28 = .ok (.iconst 1, 1) := by decide +kernel
theorem dX2_isFarOff_29 : decode cX2_isFarOff 29 = .ok (.goto 4, 3) := by decide +kernel
theorem dX2_isFarOff_32 : decode cX2_isFarOff 32 = .ok (.iconst 0, 1) := by decide +kernel
theorem dX2_isFarOff_33 : decode cX2_isFarOff 33 = .ok (.ireturn, 1) := by decide +kernel
theorem dX3_init_0 : decode cX3_init 0 = .ok (.aload_n 0, 1) := by decide +kernel
theorem dX3_init_1 : decode cX3_init 1 = .ok (.invokespecial 3, 3) := by decide +kernel
theorem dX3_init_4 : decode cX3_init 4 = .ok (.aload_n 0, 1) := by decide +kernel
theorem dX3_init_5 : decode cX3_init 5 = .ok (.sipush 600, 3) := by decide +kernel
theorem dX3_init_8 : decode cX3_init 8 = .ok (.newarray .int, 2) := by decide +kernel
theorem dX3_init_10 : decode cX3_init 10 = .ok (.putfield 9, 3) := by decide +kernel
theorem dX3_init_13 : decode cX3_init 13 = .ok (.return_, 1) := by decide +kernel
theorem dX3_tell_0 : decode cX3_tell 0 = .ok (.aload_n 0, 1) := by decide +kernel
theorem dX3_tell_1 : decode cX3_tell 1 = .ok (.getfield 9, 3) := by decide +kernel
theorem dX3_tell_4 : decode cX3_tell 4 = .ok (.iload_n 1, 1) := by decide +kernel
theorem dX3_tell_5 : decode cX3_tell 5 = .ok (.sipush 600, 3) := by decide +kernel
theorem dX3_tell_8 : decode cX3_tell 8 = .ok (.irem, 1) := by decide +kernel
theorem dX3_tell_9 : decode cX3_tell 9 = .ok (.dup2, 1) := by decide +kernel
theorem dX3_tell_10 : decode cX3_tell 10 = .ok (.iaload, 1) := by decide +kernel
theorem dX3_tell_11 : decode cX3_tell 11 = .ok (.iconst 1, 1) := by decide +kernel
theorem dX3_tell_12 : decode cX3_tell 12 = .ok (.iadd, 1) := by decide +kernel
theorem dX3_tell_13 : decode cX3_tell 13 = .ok (.iastore, 1) := by decide +kernel
theorem dX3_tell_14 : decode cX3_tell 14 = .ok (.aload_n 0, 1) := by decide +kernel
theorem dX3_tell_15 : decode cX3_tell 15 = .ok (.dup, 1) := by decide +kernel
theorem dX3_tell_16 : decode cX3_tell 16 = .ok (.getfield 15, 3) := by decide +kernel
theorem dX3_tell_19 : decode cX3_tell 19 = .ok (.iconst 1, 1) := by decide +kernel
theorem dX3_tell_20 : decode cX3_tell 20 = .ok (.iadd, 1) := by decide +kernel
theorem dX3_tell_21 : decode cX3_tell 21 = .ok (.putfield 15, 3) := by decide +kernel
theorem dX3_tell_24 : decode cX3_tell 24 = .ok (.return_, 1) := by decide +kernel
theorem dX3_forgetOld_0 : decode cX3_forgetOld 0 = .ok (.aload_n 0, 1) := by decide +kernel
theorem dX3_forgetOld_1 : decode cX3_forgetOld 1 = .ok (.dup, 1) := by decide +kernel
theorem dX3_forgetOld_2 : decode cX3_forgetOld 2 = .ok (.getfield 15, 3) := by decide +kernel
theorem dX3_forgetOld_5 : decode cX3_forgetOld 5 = .ok (.aload_n 0, 1) := by decide +kernel
theorem dX3_forgetOld_6 : decode cX3_forgetOld 6 = .ok (.getfield 9, 3) := by decide +kernel
theorem dX3_forgetOld_9 : decode cX3_forgetOld 9 = .ok (.iload_n 1, 1) := by decide +kernel
theorem dX3_forgetOld_10 : decode cX3_forgetOld 10 = .ok (.sipush 600, 3) := by decide +kernel
theorem dX3_forgetOld_13 : decode cX3_forgetOld 13 = .ok (.irem, 1) := by decide +kernel
theorem dX3_forgetOld_14 : decode cX3_forgetOld 14 = .ok (.iaload, 1) := by decide +kernel
theorem dX3_forgetOld_15 : decode cX3_forgetOld 15 = .ok (.isub, 1) := by decide +kernel
theorem dX3_forgetOld_16 : decode cX3_forgetOld 16 = .ok (.putfield 15, 3) := by decide +kernel
theorem dX3_forgetOld_19 : decode cX3_forgetOld 19 = .ok (.aload_n 0, 1) := by decide +kernel
theorem dX3_forgetOld_20 : decode cX3_forgetOld 20 = .ok (.getfield 9, 3) := by decide +kernel
theorem dX3_forgetOld_23 : decode cX3_forgetOld 23 = .ok (.iload_n 1, 1) := by decide +kernel
theorem dX3_forgetOld_24 : decode cX3_forgetOld 24 = .ok (.sipush 600, 3) := by decide +kernel
theorem dX3_forgetOld_27 : decode cX3_forgetOld 27 = .ok (.irem, 1) := by decide +kernel
theorem dX3_forgetOld_28 : decode cX3_forgetOld 28 = .ok (.iconst 0, 1) := by decide +kernel
theorem dX3_forgetOld_29 : decode cX3_forgetOld 29 = .ok (.iastore, 1) := by decide +kernel
theorem dX3_forgetOld_30 : decode cX3_forgetOld 30 = .ok (.return_, 1) := by decide +kernel
theorem dX4_init_0 : decode cX4_init 0 = .ok (.aload_n 0, 1) := by decide +kernel
theorem dX4_init_1 : decode cX4_init 1 = .ok (.invokespecial 3, 3) := by decide +kernel
theorem dX4_init_4 : decode cX4_init 4 = .ok (.aload_n 0, 1) := by decide +kernel
theorem dX4_init_5 : decode cX4_init 5 = .ok (.new 9, 3) := by decide +kernel
theorem dX4_init_8 : decode cX4_init 8 = .ok (.dup, 1) := by decide +kernel
theorem dX4_init_9 : decode cX4_init 9 = .ok (.invokespecial 11, 3) := by decide +kernel
theorem dX4_init_12 : decode cX4_init 12 = .ok (.putfield 12, 3) := by decide +kernel
theorem dX4_init_15 : decode cX4_init 15 = .ok (.aload_n 0, 1) := by decide +kernel
theorem dX4_init_16 : decode cX4_init 16 = .ok (.bipush 45, 2) := by decide +kernel
theorem dX4_init_18 : decode cX4_init 18 = .ok (.putfield 18, 3) := by decide +kernel
theorem dX4_init_21 : decode cX4_init 21 = .ok (.return_, 1) := by decide +kernel
theorem dX4_change_0 : decode cX4_change 0 = .ok (.aload_n 0, 1) := by decide +kernel
theorem dX4_change_1 : decode cX4_change 1 = .ok (.getfield 12, 3) := by decide +kernel
theorem dX4_change_4 : decode cX4_change 4 = .ok (.iload_n 1, 1) := by decide +kernel
theorem dX4_change_5 : decode cX4_change 5 = .ok (.invokevirtual 22, 3) := by decide +kernel
theorem dX4_change_8 : decode cX4_change 8 = .ok (.iload_n 2, 1) := by decide +kernel
theorem dX4_change_9 : decode cX4_change 9 = .ok (.invokevirtual 26, 3) := by decide +kernel
theorem dX4_change_12 : decode cX4_change 12 = .ok (.bipush 59, 2) := by decide +kernel
theorem dX4_change_14 : decode cX4_change 14 = .ok (.invokevirtual 26, 3) := by decide +kernel
theorem dX4_change_17 : decode cX4_change 17 = .ok (.pop, 1) := by decide +kernel
theorem dX4_change_18 : decode cX4_change 18 = .ok (.aload_n 0, 1) := by decide +kernel
theorem dX4_change_19 : decode cX4_change 19 = .ok (.iload_n 3, 1) := by decide +kernel
theorem dX4_change_20 : decode cX4_change 20 = .ok (.putfield 18, 3) := by decide +kernel
theorem dX4_change_23 : decode cX4_change 23 = .ok (.aload_n 0, 1) := by decide +kernel
theorem dX4_change_24 : decode cX4_change 24 = .ok (.dup, 1) := by decide +kernel
theorem dX4_change_25 : decode cX4_change 25 = .ok (.getfield 29, 3) := by decide +kernel
theorem dX4_change_28 : decode cX4_change 28 = .ok (.iconst 1, 1) := by decide +kernel
theorem dX4_change_29 : decode cX4_change 29 = .ok (.iadd, 1) := by decide +kernel
theorem dX4_change_30 : decode cX4_change 30 = .ok (.putfield 29, 3) := by decide +kernel
theorem dX4_change_33 : decode cX4_change 33 = .ok (.return_, 1) := by decide +kernel
theorem dX4_timesOf_0 : decode cX4_timesOf 0 = .ok (.iconst 0, 1) := by decide +kernel
theorem dX4_timesOf_1 : decode cX4_timesOf 1 = .ok (.istore_n 2, 1) := by decide +kernel
theorem dX4_timesOf_2 : decode cX4_timesOf 2 = .ok (.iconst 0, 1) := by decide +kernel
theorem dX4_timesOf_3 : decode cX4_timesOf 3 = .ok (.istore_n 3, 1) := by decide +kernel
theorem dX4_timesOf_4 : decode cX4_timesOf 4 = .ok (.iload_n 3, 1) := by decide +kernel
theorem dX4_timesOf_5 : decode cX4_timesOf 5 = .ok (.aload_n 0, 1) := by decide +kernel
theorem dX4_timesOf_6 : decode cX4_timesOf 6 = .ok (.getfield 12, 3) := by decide +kernel
theorem dX4_timesOf_9 : decode cX4_timesOf 9 = .ok (.invokevirtual 33, 3) := by decide +kernel
theorem dX4_timesOf_12 : decode cX4_timesOf 12 = .ok (.if_icmp .ge 29, 3) := by decide +kernel
theorem dX4_timesOf_15 : decode cX4_timesOf 15 = .ok (.iload_n 2, 1) := by decide +kernel
theorem dX4_timesOf_16 : decode cX4_timesOf 16 = .ok (.aload_n 0, 1) := by decide +kernel
theorem dX4_timesOf_17 : decode cX4_timesOf 17 = .ok (.getfield 12, 3) := by decide +kernel
theorem dX4_timesOf_20 : decode cX4_timesOf 20 = .ok (.iload_n 3, 1) := by decide +kernel
theorem dX4_timesOf_21 : decode cX4_timesOf 21 = .ok (.invokevirtual 37, 3) := by decide +kernel
theorem dX4_timesOf_24 : decode cX4_timesOf 24 = .ok (.iload_n 1, 1) := by decide +kernel
theorem dX4_timesOf_25 : decode cX4_timesOf 25 = .ok (.if_icmp .ne 7, 3) := by decide +kernel
theorem dX4_timesOf_28 : decode cX4_timesOf 28 = .ok (.iconst 1, 1) := by decide +kernel
theorem dX4_timesOf_29 : decode cX4_timesOf 29 = .ok (.goto 4, 3) := by decide +kernel
theorem dX4_timesOf_32 : decode cX4_timesOf 32 = .ok (.iconst 0, 1) := by decide +kernel
theorem dX4_timesOf_33 : decode cX4_timesOf 33 = .ok (.iadd, 1) := by decide +kernel
theorem dX4_timesOf_34 : decode cX4_timesOf 34 = .ok (.istore_n 2, 1) := by decide +kernel
theorem dX4_timesOf_35 : decode cX4_timesOf 35 = .ok (.iinc 3 1, 3) := by decide +kernel
theorem dX4_timesOf_38 : decode cX4_timesOf 38 = .ok (.goto (-34), 3) := by decide +kernel
theorem dX4_timesOf_41 : decode cX4_timesOf 41 = .ok (.iload_n 2, 1) := by decide +kernel
theorem dX4_timesOf_42 : decode cX4_timesOf 42 = .ok (.ireturn, 1) := by decide +kernel
theorem dX4_tellsAll_0 : decode cX4_tellsAll 0 = .ok (.aload_n 0, 1) := by decide +kernel
theorem dX4_tellsAll_1 : decode cX4_tellsAll 1 = .ok (.bipush 59, 2) := by decide +kernel
theorem dX4_tellsAll_3 : decode cX4_tellsAll 3 = .ok (.invokevirtual 41, 3) := by decide +kernel
theorem dX4_tellsAll_6 : decode cX4_tellsAll 6 = .ok (.aload_n 0, 1) := by decide +kernel
theorem dX4_tellsAll_7 : decode cX4_tellsAll 7 = .ok (.getfield 29, 3) := by decide +kernel
theorem dX4_tellsAll_10 : decode cX4_tellsAll 10 = .ok (.if_icmp .ne 18, 3) := by decide +kernel
theorem dX4_tellsAll_13 : decode cX4_tellsAll 13 = .ok (.aload_n 0, 1) := by decide +kernel
theorem dX4_tellsAll_14 : decode cX4_tellsAll 14 = .ok (.invokevirtual 45, 3) := by decide +kernel
theorem dX4_tellsAll_17 : decode cX4_tellsAll 17 = .ok (.aload_n 0, 1) := by decide +kernel
theorem dX4_tellsAll_18 : decode cX4_tellsAll 18 = .ok (.getfield 18, 3) := by decide +kernel
theorem dX4_tellsAll_21 : decode cX4_tellsAll 21 = .ok (.if_icmp .ne 7, 3) := by decide +kernel
theorem dX4_tellsAll_24 : decode cX4_tellsAll 24 = .ok (.iconst 1, 1) := by decide +kernel
theorem dX4_tellsAll_25 : decode cX4_tellsAll 25 = .ok (.goto 4, 3) := by decide +kernel
theorem dX4_tellsAll_28 : decode cX4_tellsAll 28 = .ok (.iconst 0, 1) := by decide +kernel
theorem dX4_tellsAll_29 : decode cX4_tellsAll 29 = .ok (.ireturn, 1) := by decide +kernel
theorem dX4_lastTold_0 : decode cX4_lastTold 0 = .ok (.aload_n 0, 1) := by decide +kernel
theorem dX4_lastTold_1 : decode cX4_lastTold 1 = .ok (.getfield 12, 3) := by decide +kernel
theorem dX4_lastTold_4 : decode cX4_lastTold 4 = .ok (.invokevirtual 33, 3) := by decide +kernel
theorem dX4_lastTold_7 : decode cX4_lastTold 7 = .ok (.istore_n 1, 1) := by decide +kernel
theorem dX4_lastTold_8 : decode cX4_lastTold 8 = .ok (.iload_n 1, 1) := by decide +kernel
theorem dX4_lastTold_9 : decode cX4_lastTold 9 = .ok (.iconst 2, 1) := by decide +kernel
theorem dX4_lastTold_10 : decode cX4_lastTold 10 = .ok (.if_icmp .ge 8, 3) := by decide +kernel
theorem dX4_lastTold_13 : decode cX4_lastTold 13 = .ok (.bipush 45, 2) := by decide +kernel
theorem dX4_lastTold_15 : decode cX4_lastTold 15 = .ok (.goto 16, 3) := by decide +kernel
theorem dX4_lastTold_18 : decode cX4_lastTold 18 = .ok (.aload_n 0, 1) := by decide +kernel
theorem dX4_lastTold_19 : decode cX4_lastTold 19 = .ok (.getfield 12, 3) := by decide +kernel
theorem dX4_lastTold_22 : decode cX4_lastTold 22 = .ok (.iload_n 1, 1) := by decide +kernel
theorem dX4_lastTold_23 : decode cX4_lastTold 23 = .ok (.iconst 2, 1) := by decide +kernel
theorem dX4_lastTold_24 : decode cX4_lastTold 24 = .ok (.isub, 1) := by decide +kernel
theorem dX4_lastTold_25 : decode cX4_lastTold 25 = .ok (.invokevirtual 37, 3) := by decide +kernel
theorem dX4_lastTold_28 : decode cX4_lastTold 28 = .ok (.invokestatic 49, 3) := by decide +kernel
theorem dX4_lastTold_31 : decode cX4_lastTold 31 = .ok (.ireturn, 1) := by decide +kernel
theorem dX4_stateBehind_0 : decode cX4_stateBehind 0 = .ok (.iload_n 0, 1) := by decide +kernel
theorem dX4_stateBehind_1 : decode cX4_stateBehind 1 = .ok (.bipush 67, 2) := by decide +kernel
theorem dX4_stateBehind_3 : decode cX4_stateBehind 3 = .ok (.if_icmp .eq 15, 3) := by decide +kernel
theorem dX4_stateBehind_6 : decode cX4_stateBehind 6 = .ok (.iload_n 0, 1) := by decide +kernel
theorem dX4_stateBehind_7 : decode cX4_stateBehind 7 = .ok (.bipush 71, 2) := by decide +kernel
theorem dX4_stateBehind_9 : decode cX4_stateBehind 9 = .ok (.if_icmp .eq 9, 3) := by decide +kernel
theorem dX4_stateBehind_12 : decode cX4_stateBehind 12 = .ok (.iload_n 0, 1) := by decide +kernel
theorem dX4_stateBehind_13 : decode cX4_stateBehind 13 = .ok (.bipush 82, 2) := by decide +kernel
theorem dX4_stateBehind_15 : decode cX4_stateBehind 15 = .ok (.if_icmp .ne 6, 3) := by decide +kernel
theorem dX4_stateBehind_18 : decode cX4_stateBehind 18 = .ok (.bipush 99, 2) := by decide +kernel
theorem dX4_stateBehind_20 : decode cX4_stateBehind 20 = .ok (.ireturn, 1) := by decide +kernel
theorem dX4_stateBehind_21 : decode cX4_stateBehind 21 = .ok (.iload_n 0, 1) := by decide +kernel
theorem dX4_stateBehind_22 : decode cX4_stateBehind 22 = .ok (.bipush 72, 2) := by decide +kernel
theorem dX4_stateBehind_24 : decode cX4_stateBehind 24 = .ok (.if_icmp .ne 6, 3) := by decide +kernel
theorem dX4_stateBehind_27 : decode cX4_stateBehind 27 = .ok (.bipush 104, 2) := by decide +kernel
theorem dX4_stateBehind_29 : decode cX4_stateBehind 29 = .ok (.ireturn, 1) := by decide +kernel
theorem dX4_stateBehind_30 : decode cX4_stateBehind 30 = .ok (.iload_n 0, 1) := by decide +kernel
theorem dX4_stateBehind_31 : decode cX4_stateBehind 31 = .ok (.bipush 83, 2) := by decide +kernel
theorem dX4_stateBehind_33 : decode cX4_stateBehind 33 = .ok (.if_icmp .ne 6, 3) := by decide +kernel
theorem dX4_stateBehind_36 : decode cX4_stateBehind 36 = .ok (.bipush 115, 2) := by decide +kernel
theorem dX4_stateBehind_38 : decode cX4_stateBehind 38 = .ok (.ireturn, 1) := by decide +kernel
theorem dX4_stateBehind_39 : decode cX4_stateBehind 39 = .ok (.iload_n 0, 1) := by decide +kernel
theorem dX4_stateBehind_40 : decode cX4_stateBehind 40 = .ok (.bipush 70, 2) := by decide +kernel
theorem dX4_stateBehind_42 : decode cX4_stateBehind 42 = .ok (.if_icmp .ne 6, 3) := by decide +kernel
theorem dX4_stateBehind_45 : decode cX4_stateBehind 45 = .ok (.bipush 102, 2) := by decide +kernel
theorem dX4_stateBehind_47 : decode cX4_stateBehind 47 = .ok (.ireturn, 1) := by decide +kernel
theorem dX4_stateBehind_48 : decode cX4_stateBehind 48 = .ok (.iload_n 0, 1) := by decide +kernel
theorem dX4_stateBehind_49 : decode cX4_stateBehind 49 = .ok (.bipush 88, 2) := by decide +kernel
theorem dX4_stateBehind_51 : decode cX4_stateBehind 51 = .ok (.if_icmp .ne 8, 3) := by decide +kernel
theorem dX4_stateBehind_54 : decode cX4_stateBehind 54 = .ok (.bipush 120, 2) := by decide +kernel
theorem dX4_stateBehind_56 : decode cX4_stateBehind 56 = .ok (.goto 5, 3) := by decide +kernel
theorem dX4_stateBehind_59 : decode cX4_stateBehind 59 = .ok (.bipush 111, 2) := by decide +kernel
theorem dX4_stateBehind_61 : decode cX4_stateBehind 61 = .ok (.ireturn, 1) := by decide +kernel
theorem dX5_init_0 : decode cX5_init 0 = .ok (.aload_n 0, 1) := by decide +kernel
theorem dX5_init_1 : decode cX5_init 1 = .ok (.invokespecial 3, 3) := by decide +kernel
theorem dX5_init_4 : decode cX5_init 4 = .ok (.aload_n 0, 1) := by decide +kernel
theorem dX5_init_5 : decode cX5_init 5 = .ok (.bipush 6, 2) := by decide +kernel
theorem dX5_init_7 : decode cX5_init 7 = .ok (.newarray .int, 2) := by decide +kernel
theorem dX5_init_9 : decode cX5_init 9 = .ok (.putfield 9, 3) := by decide +kernel
theorem dX5_init_12 : decode cX5_init 12 = .ok (.aload_n 0, 1) := by decide +kernel
theorem dX5_init_13 : decode cX5_init 13 = .ok (.bipush 6, 2) := by decide +kernel
theorem dX5_init_15 : decode cX5_init 15 = .ok (.newarray .int, 2) := by decide +kernel
theorem dX5_init_17 : decode cX5_init 17 = .ok (.putfield 15, 3) := by decide +kernel
theorem dX5_init_20 : decode cX5_init 20 = .ok (.aload_n 0, 1) := by decide +kernel
theorem dX5_init_21 : decode cX5_init 21 = .ok (.bipush 6, 2) := by decide +kernel
theorem dX5_init_23 : decode cX5_init 23 = .ok (.newarray .int, 2) := by decide +kernel
theorem dX5_init_25 : decode cX5_init 25 = .ok (.putfield 18, 3) := by decide +kernel
theorem dX5_init_28 : decode cX5_init 28 = .ok (.return_, 1) := by decide +kernel
theorem dX5_find_0 : decode cX5_find 0 = .ok (.iconst 0, 1) := by decide +kernel
theorem dX5_find_1 : decode cX5_find 1 = .ok (.istore_n 2, 1) := by decide +kernel
theorem dX5_find_2 : decode cX5_find 2 = .ok (.iload_n 2, 1) := by decide +kernel
theorem dX5_find_3 : decode cX5_find 3 = .ok (.aload_n 0, 1) := by decide +kernel
theorem dX5_find_4 : decode cX5_find 4 = .ok (.getfield 21, 3) := by decide +kernel
theorem dX5_find_7 : decode cX5_find 7 = .ok (.if_icmp .ge 21, 3) := by decide +kernel
theorem dX5_find_10 : decode cX5_find 10 = .ok (.aload_n 0, 1) := by decide +kernel
theorem dX5_find_11 : decode cX5_find 11 = .ok (.getfield 9, 3) := by decide +kernel
theorem dX5_find_14 : decode cX5_find 14 = .ok (.iload_n 2, 1) := by decide +kernel
theorem dX5_find_15 : decode cX5_find 15 = .ok (.iaload, 1) := by decide +kernel
theorem dX5_find_16 : decode cX5_find 16 = .ok (.iload_n 1, 1) := by decide +kernel
theorem dX5_find_17 : decode cX5_find 17 = .ok (.if_icmp .ne 5, 3) := by decide +kernel
theorem dX5_find_20 : decode cX5_find 20 = .ok (.iload_n 2, 1) := by decide +kernel
theorem dX5_find_21 : decode cX5_find 21 = .ok (.ireturn, 1) := by decide +kernel
theorem dX5_find_22 : decode cX5_find 22 = .ok (.iinc 2 1, 3) := by decide +kernel
theorem dX5_find_25 : decode cX5_find 25 = .ok (.goto (-23), 3) := by decide +kernel
theorem dX5_find_28 : decode cX5_find 28 = .ok (.iconst (-1), 1) := by decide +kernel
theorem dX5_find_29 : decode cX5_find 29 = .ok (.ireturn, 1) := by decide +kernel
theorem dX5_insert_0 : decode cX5_insert 0 = .ok (.aload_n 0, 1) := by decide +kernel
theorem dX5_insert_1 : decode cX5_insert 1 = .ok (.getfield 21, 3) := by decide +kernel
theorem dX5_insert_4 : decode cX5_insert 4 = .ok (.istore 4, 2) := by decide +kernel
theorem dX5_insert_6 : decode cX5_insert 6 = .ok (.iload 4, 2) := by decide +kernel
theorem dX5_insert_8 : decode cX5_insert 8 = .ok (.ifCond .le 70, 3) := by decide +kernel
theorem dX5_insert_11 : decode cX5_insert 11 = .ok (.aload_n 0, 1) := by decide +kernel
theorem dX5_insert_12 : decode cX5_insert 12 = .ok (.getfield 9, 3) := by decide +kernel
theorem dX5_insert_15 : decode cX5_insert 15 = .ok (.iload 4, 2) := by decide +kernel
theorem dX5_insert_17 : decode cX5_insert 17 = .ok (.iconst 1, 1) := by decide +kernel
theorem dX5_insert_18 : decode cX5_insert 18 = .ok (.isub, 1) := by decide +kernel
theorem dX5_insert_19 : decode cX5_insert 19 = .ok (.iaload, 1) := by decide +kernel
theorem dX5_insert_20 : decode cX5_insert 20 = .ok (.iload_n 1, 1) := by decide +kernel
theorem dX5_insert_21 : decode cX5_insert 21 = .ok (.if_icmp .le 57, 3) := by decide +kernel
theorem dX5_insert_24 : decode cX5_insert 24 = .ok (.aload_n 0, 1) := by decide +kernel
theorem dX5_insert_25 : decode cX5_insert 25 = .ok (.getfield 9, 3) := by decide +kernel
theorem dX5_insert_28 : decode cX5_insert 28 = .ok (.iload 4, 2) := by decide +kernel
theorem dX5_insert_30 : decode cX5_insert 30 = .ok (.aload_n 0, 1) := by decide +kernel
theorem dX5_insert_31 : decode cX5_insert 31 = .ok (.getfield 9, 3) := by decide +kernel
theorem dX5_insert_34 : decode cX5_insert 34 = .ok (.iload 4, 2) := by decide +kernel
theorem dX5_insert_36 : decode cX5_insert 36 = .ok (.iconst 1, 1) := by decide +kernel
theorem dX5_insert_37 : decode cX5_insert 37 = .ok (.isub, 1) := by decide +kernel
theorem dX5_insert_38 : decode cX5_insert 38 = .ok (.iaload, 1) := by decide +kernel
theorem dX5_insert_39 : decode cX5_insert 39 = .ok (.iastore, 1) := by decide +kernel
theorem dX5_insert_40 : decode cX5_insert 40 = .ok (.aload_n 0, 1) := by decide +kernel
theorem dX5_insert_41 : decode cX5_insert 41 = .ok (.getfield 15, 3) := by decide +kernel
theorem dX5_insert_44 : decode cX5_insert 44 = .ok (.iload 4, 2) := by decide +kernel
theorem dX5_insert_46 : decode cX5_insert 46 = .ok (.aload_n 0, 1) := by decide +kernel
theorem dX5_insert_47 : decode cX5_insert 47 = .ok (.getfield 15, 3) := by decide +kernel
theorem dX5_insert_50 : decode cX5_insert 50 = .ok (.iload 4, 2) := by decide +kernel
theorem dX5_insert_52 : decode cX5_insert 52 = .ok (.iconst 1, 1) := by decide +kernel
theorem dX5_insert_53 : decode cX5_insert 53 = .ok (.isub, 1) := by decide +kernel
theorem dX5_insert_54 : decode cX5_insert 54 = .ok (.iaload, 1) := by decide +kernel
theorem dX5_insert_55 : decode cX5_insert 55 = .ok (.iastore, 1) := by decide +kernel
theorem dX5_insert_56 : decode cX5_insert 56 = .ok (.aload_n 0, 1) := by decide +kernel
theorem dX5_insert_57 : decode cX5_insert 57 = .ok (.getfield 18, 3) := by decide +kernel
theorem dX5_insert_60 : decode cX5_insert 60 = .ok (.iload 4, 2) := by decide +kernel
theorem dX5_insert_62 : decode cX5_insert 62 = .ok (.aload_n 0, 1) := by decide +kernel
theorem dX5_insert_63 : decode cX5_insert 63 = .ok (.getfield 18, 3) := by decide +kernel
theorem dX5_insert_66 : decode cX5_insert 66 = .ok (.iload 4, 2) := by decide +kernel
theorem dX5_insert_68 : decode cX5_insert 68 = .ok (.iconst 1, 1) := by decide +kernel
theorem dX5_insert_69 : decode cX5_insert 69 = .ok (.isub, 1) := by decide +kernel
theorem dX5_insert_70 : decode cX5_insert 70 = .ok (.iaload, 1) := by decide +kernel
theorem dX5_insert_71 : decode cX5_insert 71 = .ok (.iastore, 1) := by decide +kernel
theorem dX5_insert_72 : decode cX5_insert 72 = .ok (.iinc 4 (-1), 3) := by decide +kernel
theorem dX5_insert_75 : decode cX5_insert 75 = .ok (.goto (-69), 3) := by decide +kernel
theorem dX5_insert_78 : decode cX5_insert 78 = .ok (.aload_n 0, 1) := by decide +kernel
theorem dX5_insert_79 : decode cX5_insert 79 = .ok (.getfield 9, 3) := by decide +kernel
theorem dX5_insert_82 : decode cX5_insert 82 = .ok (.iload 4, 2) := by decide +kernel
theorem dX5_insert_84 : decode cX5_insert 84 = .ok (.iload_n 1, 1) := by decide +kernel
theorem dX5_insert_85 : decode cX5_insert 85 = .ok (.iastore, 1) := by decide +kernel
theorem dX5_insert_86 : decode cX5_insert 86 = .ok (.aload_n 0, 1) := by decide +kernel
theorem dX5_insert_87 : decode cX5_insert 87 = .ok (.getfield 15, 3) := by decide +kernel
theorem dX5_insert_90 : decode cX5_insert 90 = .ok (.iload 4, 2) := by decide +kernel
theorem dX5_insert_92 : decode cX5_insert 92 = .ok (.iload_n 2, 1) := by decide +kernel
theorem dX5_insert_93 : decode cX5_insert 93 = .ok (.iastore, 1) := by decide +kernel
theorem dX5_insert_94 : decode cX5_insert 94 = .ok (.aload_n 0, 1) := by decide +kernel
theorem dX5_insert_95 : decode cX5_insert 95 = .ok (.getfield 18, 3) := by decide +kernel
theorem dX5_insert_98 : decode cX5_insert 98 = .ok (.iload 4, 2) := by decide +kernel
theorem dX5_insert_100 : decode cX5_insert 100 = .ok (.iload_n 3, 1) := by decide +kernel
theorem dX5_insert_101 : decode cX5_insert 101 = .ok (.iastore, 1) := by decide +kernel
theorem dX5_insert_102 : decode cX5_insert 102 = .ok (.aload_n 0, 1) := by decide +kernel
theorem dX5_insert_103 : decode cX5_insert 103 = .ok (.dup, 1) := by decide +kernel
theorem dX5_insert_104 : decode cX5_insert 104 = .ok (.getfield 21, 3) := by decide +kernel
theorem dX5_insert_107 : decode cX5_insert 107 = .ok (.iconst 1, 1) := by decide +kernel
theorem dX5_insert_108 : decode cX5_insert 108 = .ok (.iadd, 1) := by decide +kernel
theorem dX5_insert_109 : decode cX5_insert 109 = .ok (.putfield 21, 3) := by decide +kernel
theorem dX5_insert_112 : decode cX5_insert 112 = .ok (.return_, 1) := by decide +kernel
theorem dX5_keep_0 : decode cX5_keep 0 = .ok (.aload_n 0, 1) := by decide +kernel
theorem dX5_keep_1 : decode cX5_keep 1 = .ok (.iload_n 1, 1) := by decide +kernel
theorem dX5_keep_2 : decode cX5_keep 2 = .ok (.invokevirtual 25, 3) := by decide +kernel
theorem dX5_keep_5 : decode cX5_keep 5 = .ok (.istore 4, 2) := by decide +kernel
theorem dX5_keep_7 : decode cX5_keep 7 = .ok (.iload 4, 2) := by decide +kernel
theorem dX5_keep_9 : decode cX5_keep 9 = .ok (.iconst (-1), 1) := by decide +kernel
theorem dX5_keep_10 : decode cX5_keep 10 = .ok (.if_icmp .eq 32, 3) := by decide +kernel
theorem dX5_keep_13 : decode cX5_keep 13 = .ok (.iload_n 2, 1) := by decide +kernel
theorem dX5_keep_14 : decode cX5_keep 14 = .ok (.aload_n 0, 1) := by decide +kernel
theorem dX5_keep_15 : decode cX5_keep 15 = .ok (.getfield 15, 3) := by decide +kernel
theorem dX5_keep_18 : decode cX5_keep 18 = .ok (.iload 4, 2) := by decide +kernel
theorem dX5_keep_20 : decode cX5_keep 20 = .ok (.iaload, 1) := by decide +kernel
theorem dX5_keep_21 : decode cX5_keep 21 = .ok (.if_icmp .lt 17, 3) := by decide +kernel
theorem dX5_keep_24 : decode cX5_keep 24 = .ok (.aload_n 3, 1) := by decide +kernel
theorem dX5_keep_25 : decode cX5_keep 25 = .ok (.aload_n 0, 1) := by decide +kernel
theorem dX5_keep_26 : decode cX5_keep 26 = .ok (.getfield 18, 3) := by decide +kernel
theorem dX5_keep_29 : decode cX5_keep 29 = .ok (.iload 4, 2) := by decide +kernel
theorem dX5_keep_31 : decode cX5_keep 31 = .ok (.iaload, 1) := by decide +kernel
theorem dX5_keep_32 : decode cX5_keep 32 = .ok (.invokevirtual 29, 3) := by decide +kernel
theorem dX5_keep_35 : decode cX5_keep 35 = .ok (.ifCond .ne 7, 3) := by decide +kernel
theorem dX5_keep_38 : decode cX5_keep 38 = .ok (.iconst 1, 1) := by decide +kernel
theorem dX5_keep_39 : decode cX5_keep 39 = .ok (.goto 4, 3) := by decide +kernel
theorem dX5_keep_42 : decode cX5_keep 42 = .ok (.iconst 0, 1) := by decide +kernel
theorem dX5_keep_43 : decode cX5_keep 43 = .ok (.ireturn, 1) := by decide +kernel
theorem dX6_init_0 : decode cX6_init 0 = .ok (.aload_n 0, 1) := by decide +kernel
theorem dX6_init_1 : decode cX6_init 1 = .ok (.invokespecial 3, 3) := by decide +kernel
theorem dX6_init_4 : decode cX6_init 4 = .ok (.aload_n 0, 1) := by decide +kernel
theorem dX6_init_5 : decode cX6_init 5 = .ok (.bipush 12, 2) := by decide +kernel
theorem dX6_init_7 : decode cX6_init 7 = .ok (.newarray .char, 2) := by decide +kernel
theorem dX6_init_9 : decode cX6_init 9 = .ok (.putfield 9, 3) := by decide +kernel
theorem dX6_init_12 : decode cX6_init 12 = .ok (.aload_n 0, 1) := by decide +kernel
theorem dX6_init_13 : decode cX6_init 13 = .ok (.bipush 12, 2) := by decide +kernel
theorem dX6_init_15 : decode cX6_init 15 = .ok (.newarray .int, 2) := by decide +kernel
theorem dX6_init_17 : decode cX6_init 17 = .ok (.putfield 15, 3) := by decide +kernel
theorem dX6_init_20 : decode cX6_init 20 = .ok (.aload_n 0, 1) := by decide +kernel
theorem dX6_init_21 : decode cX6_init 21 = .ok (.bipush 12, 2) := by decide +kernel
theorem dX6_init_23 : decode cX6_init 23 = .ok (.newarray .int, 2) := by decide +kernel
theorem dX6_init_25 : decode cX6_init 25 = .ok (.putfield 19, 3) := by decide +kernel
theorem dX6_init_28 : decode cX6_init 28 = .ok (.aload_n 0, 1) := by decide +kernel
theorem dX6_init_29 : decode cX6_init 29 = .ok (.bipush 12, 2) := by decide +kernel
theorem dX6_init_31 : decode cX6_init 31 = .ok (.newarray .int, 2) := by decide +kernel
theorem dX6_init_33 : decode cX6_init 33 = .ok (.putfield 22, 3) := by decide +kernel
theorem dX6_init_36 : decode cX6_init 36 = .ok (.aload_n 0, 1) := by decide +kernel
theorem dX6_init_37 : decode cX6_init 37 = .ok (.bipush 12, 2) := by decide +kernel
theorem dX6_init_39 : decode cX6_init 39 = .ok (.newarray .int, 2) := by decide +kernel
theorem dX6_init_41 : decode cX6_init 41 = .ok (.putfield 25, 3) := by decide +kernel
theorem dX6_init_44 : decode cX6_init 44 = .ok (.aload_n 0, 1) := by decide +kernel
theorem dX6_init_45 : decode cX6_init 45 = .ok (.bipush 12, 2) := by decide +kernel
theorem dX6_init_47 : decode cX6_init 47 = .ok (.newarray .int, 2) := by decide +kernel
theorem dX6_init_49 : decode cX6_init 49 = .ok (.putfield 28, 3) := by decide +kernel
theorem dX6_init_52 : decode cX6_init 52 = .ok (.aload_n 0, 1) := by decide +kernel
theorem dX6_init_53 : decode cX6_init 53 = .ok (.bipush 12, 2) := by decide +kernel
theorem dX6_init_55 : decode cX6_init 55 = .ok (.newarray .int, 2) := by decide +kernel
theorem dX6_init_57 : decode cX6_init 57 = .ok (.putfield 31, 3) := by decide +kernel
theorem dX6_init_60 : decode cX6_init 60 = .ok (.aload_n 0, 1) := by decide +kernel
theorem dX6_init_61 : decode cX6_init 61 = .ok (.bipush 12, 2) := by decide +kernel
theorem dX6_init_63 : decode cX6_init 63 = .ok (.newarray .int, 2) := by decide +kernel
theorem dX6_init_65 : decode cX6_init 65 = .ok (.putfield 34, 3) := by decide +kernel
theorem dX6_init_68 : decode cX6_init 68 = .ok (.aload_n 0, 1) := by decide +kernel
theorem dX6_init_69 : decode cX6_init 69 = .ok (.bipush 12, 2) := by decide +kernel
theorem dX6_init_71 : decode cX6_init 71 = .ok (.newarray .int, 2) := by decide +kernel
theorem dX6_init_73 : decode cX6_init 73 = .ok (.putfield 37, 3) := by decide +kernel
theorem dX6_init_76 : decode cX6_init 76 = .ok (.aload_n 0, 1) := by decide +kernel
theorem dX6_init_77 : decode cX6_init 77 = .ok (.bipush 12, 2) := by decide +kernel
theorem dX6_init_79 : decode cX6_init 79 = .ok (.newarray .int, 2) := by decide +kernel
theorem dX6_init_81 : decode cX6_init 81 = .ok (.putfield 40, 3) := by decide +kernel
theorem dX6_init_84 : decode cX6_init 84 = .ok (.return_, 1) := by decide +kernel
theorem dX6_append_0 : decode cX6_append 0 = .ok (.aload_n 0, 1) := by decide +kernel
theorem dX6_append_1 : decode cX6_append 1 = .ok (.getfield 43, 3) := by decide +kernel
theorem dX6_append_4 : decode cX6_append 4 = .ok (.istore 6, 2) := by decide +kernel
theorem dX6_append_6 : decode cX6_append 6 = .ok (.aload_n 0, 1) := by decide +kernel
theorem dX6_append_7 : decode cX6_append 7 = .ok (.getfield 9, 3) := by decide +kernel
theorem dX6_append_10 : decode cX6_append 10 = .ok (.iload 6, 2) := by decide +kernel
theorem dX6_append_12 : decode cX6_append 12 = .ok (.iload_n 1, 1) := by decide +kernel
theorem dX6_append_13 : decode cX6_append 13 = .ok (.castore, 1) := by decide +kernel
theorem dX6_append_14 : decode cX6_append 14 = .ok (.aload_n 0, 1) := by decide +kernel
theorem dX6_append_15 : decode cX6_append 15 = .ok (.getfield 15, 3) := by decide +kernel
theorem dX6_append_18 : decode cX6_append 18 = .ok (.iload 6, 2) := by decide +kernel
theorem dX6_append_20 : decode cX6_append 20 = .ok (.iload_n 2, 1) := by decide +kernel
theorem dX6_append_21 : decode cX6_append 21 = .ok (.iastore, 1) := by decide +kernel
theorem dX6_append_22 : decode cX6_append 22 = .ok (.aload_n 0, 1) := by decide +kernel
theorem dX6_append_23 : decode cX6_append 23 = .ok (.getfield 19, 3) := by decide +kernel
theorem dX6_append_26 : decode cX6_append 26 = .ok (.iload 6, 2) := by decide +kernel
theorem dX6_append_28 : decode cX6_append 28 = .ok (.iload_n 3, 1) := by decide +kernel
theorem dX6_append_29 : decode cX6_append 29 = .ok (.iastore, 1) := by decide +kernel
theorem dX6_append_30 : decode cX6_append 30 = .ok (.aload_n 0, 1) := by decide +kernel
theorem dX6_append_31 : decode cX6_append 31 = .ok (.getfield 22, 3) := by decide +kernel
theorem dX6_append_34 : decode cX6_append 34 = .ok (.iload 6, 2) := by decide +kernel
theorem dX6_append_36 : decode cX6_append 36 = .ok (.iload 4, 2) := by decide +kernel
theorem dX6_append_38 : decode cX6_append 38 = .ok (.iastore, 1) := by decide +kernel
theorem dX6_append_39 : decode cX6_append 39 = .ok (.aload_n 0, 1) := by decide +kernel
theorem dX6_append_40 : decode cX6_append 40 = .ok (.getfield 25, 3) := by decide +kernel
theorem dX6_append_43 : decode cX6_append 43 = .ok (.iload 6, 2) := by decide +kernel
theorem dX6_append_45 : decode cX6_append 45 = .ok (.iload 5, 2) := by decide +kernel
theorem dX6_append_47 : decode cX6_append 47 = .ok (.iastore, 1) := by decide +kernel
theorem dX6_append_48 : decode cX6_append 48 = .ok (.aload_n 0, 1) := by decide +kernel
theorem dX6_append_49 : decode cX6_append 49 = .ok (.getfield 37, 3) := by decide +kernel
theorem dX6_append_52 : decode cX6_append 52 = .ok (.iload 6, 2) := by decide +kernel
theorem dX6_append_54 : decode cX6_append 54 = .ok (.iconst (-1), 1) := by decide +kernel
theorem dX6_append_55 : decode cX6_append 55 = .ok (.iastore, 1) := by decide +kernel
theorem dX6_append_56 : decode cX6_append 56 = .ok (.aload_n 0, 1) := by decide +kernel
theorem dX6_append_57 : decode cX6_append 57 = .ok (.dup, 1) := by decide +kernel
theorem dX6_append_58 : decode cX6_append 58 = .ok (.getfield 43, 3) := by decide +kernel
theorem dX6_append_61 : decode cX6_append 61 = .ok (.iconst 1, 1) := by decide +kernel
theorem dX6_append_62 : decode cX6_append 62 = .ok (.iadd, 1) := by decide +kernel
theorem dX6_append_63 : decode cX6_append 63 = .ok (.putfield 43, 3) := by decide +kernel
theorem dX6_append_66 : decode cX6_append 66 = .ok (.iload 6, 2) := by decide +kernel
theorem dX6_append_68 : decode cX6_append 68 = .ok (.ireturn, 1) := by decide +kernel
theorem dX6_lookAt_0 : decode cX6_lookAt 0 = .ok (.aload_n 0, 1) := by decide +kernel
theorem dX6_lookAt_1 : decode cX6_lookAt 1 = .ok (.getfield 28, 3) := by decide +kernel
theorem dX6_lookAt_4 : decode cX6_lookAt 4 = .ok (.iload_n 1, 1) := by decide +kernel
theorem dX6_lookAt_5 : decode cX6_lookAt 5 = .ok (.iload_n 2, 1) := by decide +kernel
theorem dX6_lookAt_6 : decode cX6_lookAt 6 = .ok (.iastore, 1) := by decide +kernel
theorem dX6_lookAt_7 : decode cX6_lookAt 7 = .ok (.aload_n 0, 1) := by decide +kernel
theorem dX6_lookAt_8 : decode cX6_lookAt 8 = .ok (.getfield 31, 3) := by decide +kernel
theorem dX6_lookAt_11 : decode cX6_lookAt 11 = .ok (.iload_n 1, 1) := by decide +kernel
theorem dX6_lookAt_12 : decode cX6_lookAt 12 = .ok (.aload_n 0, 1) := by decide +kernel
theorem dX6_lookAt_13 : decode cX6_lookAt 13 = .ok (.iload_n 1, 1) := by decide +kernel
theorem dX6_lookAt_14 : decode cX6_lookAt 14 = .ok (.iload_n 2, 1) := by decide +kernel
theorem dX6_lookAt_15 : decode cX6_lookAt 15 = .ok (.invokevirtual 47, 3) := by decide +kernel
theorem dX6_lookAt_18 : decode cX6_lookAt 18 = .ok (.ifCond .eq 14, 3) := by decide +kernel
theorem dX6_lookAt_21 : decode cX6_lookAt 21 = .ok (.aload_n 0, 1) := by decide +kernel
theorem dX6_lookAt_22 : decode cX6_lookAt 22 = .ok (.getfield 31, 3) := by decide +kernel
theorem dX6_lookAt_25 : decode cX6_lookAt 25 = .ok (.iload_n 1, 1) := by decide +kernel
theorem dX6_lookAt_26 : decode cX6_lookAt 26 = .ok (.iaload, 1) := by decide +kernel
theorem dX6_lookAt_27 : decode cX6_lookAt 27 = .ok (.iconst 1, 1) := by decide +kernel
theorem dX6_lookAt_28 : decode cX6_lookAt 28 = .ok (.iadd, 1) := by decide +kernel
theorem dX6_lookAt_29 : decode cX6_lookAt 29 = .ok (.goto 4, 3) := by decide +kernel
theorem dX6_lookAt_32 : decode cX6_lookAt 32 = .ok (.iconst 0, 1) := by decide +kernel
theorem dX6_lookAt_33 : decode cX6_lookAt 33 = .ok (.iastore, 1) := by decide +kernel
theorem dX6_lookAt_34 : decode cX6_lookAt 34 = .ok (.return_, 1) := by decide +kernel
theorem dX6_holdsBy_0 : decode cX6_holdsBy 0 = .ok (.iload_n 2, 1) := by decide +kernel
theorem dX6_holdsBy_1 : decode cX6_holdsBy 1 = .ok (.aload_n 0, 1) := by decide +kernel
theorem dX6_holdsBy_2 : decode cX6_holdsBy 2 = .ok (.getfield 19, 3) := by decide +kernel
theorem dX6_holdsBy_5 : decode cX6_holdsBy 5 = .ok (.iload_n 1, 1) := by decide +kernel
theorem dX6_holdsBy_6 : decode cX6_holdsBy 6 = .ok (.iaload, 1) := by decide +kernel
theorem dX6_holdsBy_7 : decode cX6_holdsBy 7 = .ok (.if_icmp .lt 17, 3) := by decide +kernel
theorem dX6_holdsBy_10 : decode cX6_holdsBy 10 = .ok (.iload_n 2, 1) := by decide +kernel
theorem dX6_holdsBy_11 : decode cX6_holdsBy 11 = .ok (.aload_n 0, 1) := by decide +kernel
theorem dX6_holdsBy_12 : decode cX6_holdsBy 12 = .ok (.getfield 22, 3) := by decide +kernel
theorem dX6_holdsBy_15 : decode cX6_holdsBy 15 = .ok (.iload_n 1, 1) := by decide +kernel
theorem dX6_holdsBy_16 : decode cX6_holdsBy 16 = .ok (.iaload, 1) := by decide +kernel
theorem dX6_holdsBy_17 : decode cX6_holdsBy 17 = .ok (.if_icmp .gt 7, 3) := by decide +kernel
theorem dX6_holdsBy_20 : decode cX6_holdsBy 20 = .ok (.iconst 1, 1) := by decide +kernel
theorem dX6_holdsBy_21 : decode cX6_holdsBy 21 = .ok (.goto 4, 3) := by decide +kernel
theorem dX6_holdsBy_24 : decode cX6_holdsBy 24 = .ok (.iconst 0, 1) := by decide +kernel
theorem dX6_holdsBy_25 : decode cX6_holdsBy 25 = .ok (.ireturn, 1) := by decide +kernel
theorem dX6_isMetBy_0 : decode cX6_isMetBy 0 = .ok (.aload_n 0, 1) := by decide +kernel
theorem dX6_isMetBy_1 : decode cX6_isMetBy 1 = .ok (.getfield 31, 3) := by decide +kernel
theorem dX6_isMetBy_4 : decode cX6_isMetBy 4 = .ok (.iload_n 1, 1) := by decide +kernel
theorem dX6_isMetBy_5 : decode cX6_isMetBy 5 = .ok (.iaload, 1) := by decide +kernel
theorem dX6_isMetBy_6 : decode cX6_isMetBy 6 = .ok (.aload_n 0, 1) := by decide +kernel
theorem dX6_isMetBy_7 : decode cX6_isMetBy 7 = .ok (.getfield 25, 3) := by decide +kernel
theorem dX6_isMetBy_10 : decode cX6_isMetBy 10 = .ok (.iload_n 1, 1) := by decide +kernel
theorem dX6_isMetBy_11 : decode cX6_isMetBy 11 = .ok (.iaload, 1) := by decide +kernel
theorem dX6_isMetBy_12 : decode cX6_isMetBy 12 = .ok (.if_icmp .lt 16, 3) := by decide +kernel
theorem dX6_isMetBy_15 : decode cX6_isMetBy 15 = .ok (.aload_n 0, 1) := by decide +kernel
theorem dX6_isMetBy_16 : decode cX6_isMetBy 16 = .ok (.iload_n 1, 1) := by decide +kernel
theorem dX6_isMetBy_17 : decode cX6_isMetBy 17 = .ok (.iload_n 2, 1) := by decide +kernel
theorem dX6_isMetBy_18 : decode cX6_isMetBy 18 = .ok (.invokevirtual 47, 3) := by decide +kernel
theorem dX6_isMetBy_21 : decode cX6_isMetBy 21 = .ok (.ifCond .eq 7, 3) := by decide +kernel
theorem dX6_isMetBy_24 : decode cX6_isMetBy 24 = .ok (.iconst 1, 1) := by decide +kernel
theorem dX6_isMetBy_25 : decode cX6_isMetBy 25 = .ok (.goto 4, 3) := by decide +kernel
theorem dX6_isMetBy_28 : decode cX6_isMetBy 28 = .ok (.iconst 0, 1) := by decide +kernel
theorem dX6_isMetBy_29 : decode cX6_isMetBy 29 = .ok (.ireturn, 1) := by decide +kernel
theorem dX6_isWaivedAt_0 : decode cX6_isWaivedAt 0 = .ok (.aload_n 0, 1) := by decide +kernel
theorem dX6_isWaivedAt_1 : decode cX6_isWaivedAt 1 = .ok (.getfield 37, 3) := by decide +kernel
theorem dX6_isWaivedAt_4 : decode cX6_isWaivedAt 4 = .ok (.iload_n 1, 1) := by decide +kernel
theorem dX6_isWaivedAt_5 : decode cX6_isWaivedAt 5 = .ok (.iaload, 1) := by decide +kernel
theorem dX6_isWaivedAt_6 : decode cX6_isWaivedAt 6 = .ok (.iconst (-1), 1) := by decide +kernel
theorem dX6_isWaivedAt_7 : decode cX6_isWaivedAt 7 = .ok (.if_icmp .eq 17, 3) := by decide +kernel
theorem dX6_isWaivedAt_10 : decode cX6_isWaivedAt 10 = .ok (.iload_n 2, 1) := by decide +kernel
theorem dX6_isWaivedAt_11 : decode cX6_isWaivedAt 11 = .ok (.aload_n 0, 1) := by decide +kernel
theorem dX6_isWaivedAt_12 : decode cX6_isWaivedAt 12 = .ok (.getfield 40, 3) := by decide +kernel
theorem dX6_isWaivedAt_15 : decode cX6_isWaivedAt 15 = .ok (.iload_n 1, 1) := by decide +kernel
theorem dX6_isWaivedAt_16 : decode cX6_isWaivedAt 16 = .ok (.iaload, 1) := by decide +kernel
theorem dX6_isWaivedAt_17 : decode cX6_isWaivedAt 17 = .ok (.if_icmp .gt 7, 3) := by decide +kernel
theorem dX6_isWaivedAt_20 : decode cX6_isWaivedAt 20 = .ok (.iconst 1, 1) := by decide +kernel
theorem dX6_isWaivedAt_21 : decode cX6_isWaivedAt 21 = .ok (.goto 4, 3) := by decide +kernel
theorem dX6_isWaivedAt_24 : decode cX6_isWaivedAt 24 = .ok (.iconst 0, 1) := by decide +kernel
theorem dX6_isWaivedAt_25 : decode cX6_isWaivedAt 25 = .ok (.ireturn, 1) := by decide +kernel
theorem dX6_firstNotMet_0 : decode cX6_firstNotMet 0 = .ok (.iconst 0, 1) := by decide +kernel
theorem dX6_firstNotMet_1 : decode cX6_firstNotMet 1 = .ok (.istore_n 2, 1) := by decide +kernel
theorem dX6_firstNotMet_2 : decode cX6_firstNotMet 2 = .ok (.iload_n 2, 1) := by decide +kernel
theorem dX6_firstNotMet_3 : decode cX6_firstNotMet 3 = .ok (.aload_n 0, 1) := by decide +kernel
theorem dX6_firstNotMet_4 : decode cX6_firstNotMet 4 = .ok (.getfield 43, 3) := by decide +kernel
theorem dX6_firstNotMet_7 : decode cX6_firstNotMet 7 = .ok (.if_icmp .ge 34, 3) := by decide +kernel
theorem dX6_firstNotMet_10 : decode cX6_firstNotMet 10 = .ok (.aload_n 0, 1) := by decide +kernel
theorem dX6_firstNotMet_11 : decode cX6_firstNotMet 11 = .ok (.iload_n 2, 1) := by decide +kernel
theorem dX6_firstNotMet_12 : decode cX6_firstNotMet 12 = .ok (.aload_n 0, 1) := by decide +kernel
theorem dX6_firstNotMet_13 : decode cX6_firstNotMet 13 = .ok (.getfield 28, 3) := by decide +kernel
theorem dX6_firstNotMet_16 : decode cX6_firstNotMet 16 = .ok (.iload_n 2, 1) := by decide +kernel
theorem dX6_firstNotMet_17 : decode cX6_firstNotMet 17 = .ok (.iaload, 1) := by decide +kernel
theorem dX6_firstNotMet_18 : decode cX6_firstNotMet 18 = .ok (.invokevirtual 51, 3) := by decide +kernel
theorem dX6_firstNotMet_21 : decode cX6_firstNotMet 21 = .ok (.ifCond .ne 14, 3) := by decide +kernel
theorem dX6_firstNotMet_24 : decode cX6_firstNotMet 24 = .ok (.aload_n 0, 1) := by decide +kernel
theorem dX6_firstNotMet_25 : decode cX6_firstNotMet 25 = .ok (.iload_n 2, 1) := by decide +kernel
theorem dX6_firstNotMet_26 : decode cX6_firstNotMet 26 = .ok (.iload_n 1, 1) := by decide +kernel
theorem dX6_firstNotMet_27 : decode cX6_firstNotMet 27 = .ok (.invokevirtual 54, 3) := by decide +kernel
theorem dX6_firstNotMet_30 : decode cX6_firstNotMet 30 = .ok (.ifCond .ne 5, 3) := by decide +kernel
theorem dX6_firstNotMet_33 : decode cX6_firstNotMet 33 = .ok (.iload_n 2, 1) := by decide +kernel
theorem dX6_firstNotMet_34 : decode cX6_firstNotMet 34 = .ok (.ireturn, 1) := by decide +kernel
theorem dX6_firstNotMet_35 : decode cX6_firstNotMet 35 = .ok (.iinc 2 1, 3) := by decide +kernel
theorem dX6_firstNotMet_38 : decode cX6_firstNotMet 38 = .ok (.goto (-36), 3) := by decide +kernel
theorem dX6_firstNotMet_41 : decode cX6_firstNotMet 41 = .ok (.iconst (-1), 1) := by decide +kernel
theorem dX6_firstNotMet_42 : decode cX6_firstNotMet 42 = .ok (.ireturn, 1) := by decide +kernel
theorem dX6_areGood_0 : decode cX6_areGood 0 = .ok (.iconst 0, 1) := by decide +kernel
theorem dX6_areGood_1 : decode cX6_areGood 1 = .ok (.istore_n 2, 1) := by decide +kernel
theorem dX6_areGood_2 : decode cX6_areGood 2 = .ok (.iload_n 2, 1) := by decide +kernel
theorem dX6_areGood_3 : decode cX6_areGood 3 = .ok (.aload_n 0, 1) := by decide +kernel
theorem dX6_areGood_4 : decode cX6_areGood 4 = .ok (.getfield 43, 3) := by decide +kernel
theorem dX6_areGood_7 : decode cX6_areGood 7 = .ok (.if_icmp .ge 48, 3) := by decide +kernel
theorem dX6_areGood_10 : decode cX6_areGood 10 = .ok (.aload_n 0, 1) := by decide +kernel
theorem dX6_areGood_11 : decode cX6_areGood 11 = .ok (.iload_n 2, 1) := by decide +kernel
theorem dX6_areGood_12 : decode cX6_areGood 12 = .ok (.aload_n 0, 1) := by decide +kernel
theorem dX6_areGood_13 : decode cX6_areGood 13 = .ok (.getfield 28, 3) := by decide +kernel
theorem dX6_areGood_16 : decode cX6_areGood 16 = .ok (.iload_n 2, 1) := by decide +kernel
theorem dX6_areGood_17 : decode cX6_areGood 17 = .ok (.iaload, 1) := by decide +kernel
theorem dX6_areGood_18 : decode cX6_areGood 18 = .ok (.invokevirtual 51, 3) := by decide +kernel
theorem dX6_areGood_21 : decode cX6_areGood 21 = .ok (.ifCond .ne 28, 3) := by decide +kernel
theorem dX6_areGood_24 : decode cX6_areGood 24 = .ok (.aload_n 0, 1) := by decide +kernel
theorem dX6_areGood_25 : decode cX6_areGood 25 = .ok (.iload_n 2, 1) := by decide +kernel
theorem dX6_areGood_26 : decode cX6_areGood 26 = .ok (.iload_n 1, 1) := by decide +kernel
theorem dX6_areGood_27 : decode cX6_areGood 27 = .ok (.invokevirtual 54, 3) := by decide +kernel
theorem dX6_areGood_30 : decode cX6_areGood 30 = .ok (.ifCond .eq 17, 3) := by decide +kernel
theorem dX6_areGood_33 : decode cX6_areGood 33 = .ok (.aload_n 0, 1) := by decide +kernel
theorem dX6_areGood_34 : decode cX6_areGood 34 = .ok (.iload_n 2, 1) := by decide +kernel
theorem dX6_areGood_35 : decode cX6_areGood 35 = .ok (.aload_n 0, 1) := by decide +kernel
theorem dX6_areGood_36 : decode cX6_areGood 36 = .ok (.getfield 37, 3) := by decide +kernel
theorem dX6_areGood_39 : decode cX6_areGood 39 = .ok (.iload_n 2, 1) := by decide +kernel
theorem dX6_areGood_40 : decode cX6_areGood 40 = .ok (.iaload, 1) := by decide +kernel
theorem dX6_areGood_41 : decode cX6_areGood 41 = .ok (.invokevirtual 57, 3) := by decide +kernel
theorem dX6_areGood_44 : decode cX6_areGood 44 = .ok (.ifCond .ne 5, 3) := by decide +kernel
theorem dX6_areGood_47 : decode cX6_areGood 47 = .ok (.iconst 0, 1) := by decide +kernel
theorem dX6_areGood_48 : decode cX6_areGood 48 = .ok (.ireturn, 1) := by decide +kernel
theorem dX6_areGood_49 : decode cX6_areGood 49 = .ok (.iinc 2 1, 3) := by decide +kernel
theorem dX6_areGood_52 : decode cX6_areGood 52 = .ok (.goto (-50), 3) := by decide +kernel
theorem dX6_areGood_55 : decode cX6_areGood 55 = .ok (.iconst 1, 1) := by decide +kernel
theorem dX6_areGood_56 : decode cX6_areGood 56 = .ok (.ireturn, 1) := by decide +kernel
theorem dX6_isWaiver_0 : decode cX6_isWaiver 0 = .ok (.aload_n 0, 1) := by decide +kernel
theorem dX6_isWaiver_1 : decode cX6_isWaiver 1 = .ok (.getfield 34, 3) := by decide +kernel
theorem dX6_isWaiver_4 : decode cX6_isWaiver 4 = .ok (.iload_n 1, 1) := by decide +kernel
theorem dX6_isWaiver_5 : decode cX6_isWaiver 5 = .ok (.iaload, 1) := by decide +kernel
theorem dX6_isWaiver_6 : decode cX6_isWaiver 6 = .ok (.iload_n 2, 1) := by decide +kernel
theorem dX6_isWaiver_7 : decode cX6_isWaiver 7 = .ok (.ishr, 1) := by decide +kernel
theorem dX6_isWaiver_8 : decode cX6_isWaiver 8 = .ok (.iconst 1, 1) := by decide +kernel
theorem dX6_isWaiver_9 : decode cX6_isWaiver 9 = .ok (.iand, 1) := by decide +kernel
theorem dX6_isWaiver_10 : decode cX6_isWaiver 10 = .ok (.iconst 1, 1) := by decide +kernel
theorem dX6_isWaiver_11 : decode cX6_isWaiver 11 = .ok (.if_icmp .ne 7, 3) := by decide +kernel
theorem dX6_isWaiver_14 : decode cX6_isWaiver 14 = .ok (.iconst 1, 1) := by decide +kernel
theorem dX6_isWaiver_15 : decode cX6_isWaiver 15 = .ok (.goto 4, 3) := by decide +kernel
theorem dX6_isWaiver_18 : decode cX6_isWaiver 18 = .ok (.iconst 0, 1) := by decide +kernel
theorem dX6_isWaiver_19 : decode cX6_isWaiver 19 = .ok (.ireturn, 1) := by decide +kernel
theorem dX6_endWaivers_0 : decode cX6_endWaivers 0 = .ok (.iconst 0, 1) := by decide +kernel
theorem dX6_endWaivers_1 : decode cX6_endWaivers 1 = .ok (.istore_n 1, 1) := by decide +kernel
theorem dX6_endWaivers_2 : decode cX6_endWaivers 2 = .ok (.iload_n 1, 1) := by decide +kernel
theorem dX6_endWaivers_3 : decode cX6_endWaivers 3 = .ok (.aload_n 0, 1) := by decide +kernel
theorem dX6_endWaivers_4 : decode cX6_endWaivers 4 = .ok (.getfield 43, 3) := by decide +kernel
theorem dX6_endWaivers_7 : decode cX6_endWaivers 7 = .ok (.if_icmp .ge 16, 3) := by decide +kernel
theorem dX6_endWaivers_10 : decode cX6_endWaivers 10 = .ok (.aload_n 0, 1) := by decide +kernel
theorem dX6_endWaivers_11 : decode cX6_endWaivers 11 = .ok (.getfield 37, 3) := by decide +kernel
theorem dX6_endWaivers_14 : decode cX6_endWaivers 14 = .ok (.iload_n 1, 1) := by decide +kernel
theorem dX6_endWaivers_15 : decode cX6_endWaivers 15 = .ok (.iconst (-1), 1) := by decide +kernel
theorem dX6_endWaivers_16 : decode cX6_endWaivers 16 = .ok (.iastore, 1) := by decide +kernel
theorem dX6_endWaivers_17 : decode cX6_endWaivers 17 = .ok (.iinc 1 1, 3) := by decide +kernel
theorem dX6_endWaivers_20 : decode cX6_endWaivers 20 = .ok (.goto (-18), 3) := by decide +kernel
theorem dX6_endWaivers_23 : decode cX6_endWaivers 23 = .ok (.return_, 1) := by decide +kernel
theorem dX7_init_0 : decode cX7_init 0 = .ok (.aload_n 0, 1) := by decide +kernel
theorem dX7_init_1 : decode cX7_init 1 = .ok (.invokespecial 3, 3) := by decide +kernel
theorem dX7_init_4 : decode cX7_init 4 = .ok (.aload_n 0, 1) := by decide +kernel
theorem dX7_init_5 : decode cX7_init 5 = .ok (.bipush 9, 2) := by decide +kernel
theorem dX7_init_7 : decode cX7_init 7 = .ok (.newarray .int, 2) := by decide +kernel
theorem dX7_init_9 : decode cX7_init 9 = .ok (.putfield 9, 3) := by decide +kernel
theorem dX7_init_12 : decode cX7_init 12 = .ok (.aload_n 0, 1) := by decide +kernel
theorem dX7_init_13 : decode cX7_init 13 = .ok (.bipush 9, 2) := by decide +kernel
theorem dX7_init_15 : decode cX7_init 15 = .ok (.newarray .boolean, 2) := by decide +kernel
theorem dX7_init_17 : decode cX7_init 17 = .ok (.putfield 15, 3) := by decide +kernel
theorem dX7_init_20 : decode cX7_init 20 = .ok (.return_, 1) := by decide +kernel
theorem dX7_countThatCount_0 : decode cX7_countThatCount 0 = .ok (.iconst 0, 1) := by decide +kernel
theorem dX7_countThatCount_1 : decode cX7_countThatCount 1 = .ok (.istore_n 2, 1) := by decide +kernel
theorem dX7_countThatCount_2 : decode cX7_countThatCount 2 = .ok (.iconst 3, 1) := by decide +kernel
theorem dX7_countThatCount_3 : decode cX7_countThatCount 3 = .ok (.iload_n 1, 1) := by decide +kernel
theorem dX7_countThatCount_4 : decode cX7_countThatCount 4 = .ok (.imul, 1) := by decide +kernel
theorem dX7_countThatCount_5 : decode cX7_countThatCount 5 = .ok (.istore_n 3, 1) := by decide +kernel
theorem dX7_countThatCount_6 : decode cX7_countThatCount 6 = .ok (.iload_n 3, 1) := by decide +kernel
theorem dX7_countThatCount_7 : decode cX7_countThatCount 7 = .ok (.iconst 3, 1) := by decide +kernel
theorem dX7_countThatCount_8 : decode cX7_countThatCount 8 = .ok (.iload_n 1, 1) := by decide +kernel
theorem dX7_countThatCount_9 : decode cX7_countThatCount 9 = .ok (.imul, 1) := by decide +kernel
theorem dX7_countThatCount_10 : decode cX7_countThatCount 10 = .ok (.iconst 3, 1) := by decide +kernel
theorem dX7_countThatCount_11 : decode cX7_countThatCount 11 = .ok (.iadd, 1) := by decide +kernel
theorem dX7_countThatCount_12 : decode cX7_countThatCount 12 = .ok (.if_icmp .ge 26, 3) := by decide +kernel
theorem dX7_countThatCount_15 : decode cX7_countThatCount 15 = .ok (.iload_n 2, 1) := by decide +kernel
theorem dX7_countThatCount_16 : decode cX7_countThatCount 16 = .ok (.aload_n 0, 1) := by decide +kernel
theorem dX7_countThatCount_17 : decode cX7_countThatCount 17 = .ok (.getfield 15, 3) := by decide +kernel
theorem dX7_countThatCount_20 : decode cX7_countThatCount 20 = .ok (.iload_n 3, 1) := by decide +kernel
theorem dX7_countThatCount_21 : decode cX7_countThatCount 21 = .ok (.baload, 1) := by decide +kernel
theorem dX7_countThatCount_22 : decode cX7_countThatCount 22 = .ok (.ifCond .eq 7, 3) := by decide +kernel
theorem dX7_countThatCount_25 : decode cX7_countThatCount 25 = .ok (.iconst 0, 1) := by decide +kernel
theorem dX7_countThatCount_26 : decode cX7_countThatCount 26 = .ok (.goto 4, 3) := by decide +kernel
theorem dX7_countThatCount_29 : decode cX7_countThatCount 29 = .ok (.iconst 1, 1) := by decide +kernel
theorem dX7_countThatCount_30 : decode cX7_countThatCount 30 = .ok (.iadd, 1) := by decide +kernel
theorem dX7_countThatCount_31 : decode cX7_countThatCount 31 = .ok (.istore_n 2, 1) := by decide +kernel
theorem dX7_countThatCount_32 : decode cX7_countThatCount 32 = .ok (.iinc 3 1, 3) := by decide +kernel
theorem dX7_countThatCount_35 : decode cX7_countThatCount 35 = .ok (.goto (-29), 3) := by decide +kernel
theorem dX7_countThatCount_38 : decode cX7_countThatCount 38 = .ok (.iload_n 2, 1) := by decide +kernel
theorem dX7_countThatCount_39 : decode cX7_countThatCount 39 = .ok (.ireturn, 1) := by decide +kernel
theorem dX7_isLastOfThree_0 : decode cX7_isLastOfThree 0 = .ok (.aload_n 0, 1) := by decide +kernel
theorem dX7_isLastOfThree_1 : decode cX7_isLastOfThree 1 = .ok (.getfield 15, 3) := by decide +kernel
theorem dX7_isLastOfThree_4 : decode cX7_isLastOfThree 4 = .ok (.iload_n 1, 1) := by decide +kernel
theorem dX7_isLastOfThree_5 : decode cX7_isLastOfThree 5 = .ok (.baload, 1) := by decide +kernel
theorem dX7_isLastOfThree_6 : decode cX7_isLastOfThree 6 = .ok (.ifCond .ne 18, 3) := by decide +kernel
theorem dX7_isLastOfThree_9 : decode cX7_isLastOfThree 9 = .ok (.aload_n 0, 1) := by decide +kernel
theorem dX7_isLastOfThree_10 : decode cX7_isLastOfThree 10 = .ok (.iload_n 1, 1) := by decide +kernel
theorem dX7_isLastOfThree_11 : decode cX7_isLastOfThree 11 = .ok (.iconst 3, 1) := by decide +kernel
theorem dX7_isLastOfThree_12 : decode cX7_isLastOfThree 12 = .ok (.idiv, 1) := by decide +kernel
theorem dX7_isLastOfThree_13 : decode cX7_isLastOfThree 13 = .ok (.invokevirtual 19, 3) := by decide +kernel
theorem dX7_isLastOfThree_16 : decode cX7_isLastOfThree 16 = .ok (.iconst 1, 1) := by decide +kernel
theorem dX7_isLastOfThree_17 : decode cX7_isLastOfThree 17 = .ok (.if_icmp .ne 7, 3) := by decide +kernel
theorem dX7_isLastOfThree_20 : decode cX7_isLastOfThree 20 = .ok (.iconst 1, 1) := by decide +kernel
theorem dX7_isLastOfThree_21 : decode cX7_isLastOfThree 21 = .ok (.goto 4, 3) := by decide +kernel
theorem dX7_isLastOfThree_24 : decode cX7_isLastOfThree 24 = .ok (.iconst 0, 1) := by decide +kernel
theorem dX7_isLastOfThree_25 : decode cX7_isLastOfThree 25 = .ok (.ireturn, 1) := by decide +kernel
theorem dX7_tellTogether_0 : decode cX7_tellTogether 0 = .ok (.aload_n 0, 1) := by decide +kernel
theorem dX7_tellTogether_1 : decode cX7_tellTogether 1 = .ok (.iload_n 1, 1) := by decide +kernel
theorem dX7_tellTogether_2 : decode cX7_tellTogether 2 = .ok (.invokevirtual 19, 3) := by decide +kernel
theorem dX7_tellTogether_5 : decode cX7_tellTogether 5 = .ok (.istore_n 2, 1) := by decide +kernel
theorem dX7_tellTogether_6 : decode cX7_tellTogether 6 = .ok (.iconst 0, 1) := by decide +kernel
theorem dX7_tellTogether_7 : decode cX7_tellTogether 7 = .ok (.istore_n 3, 1) := by decide +kernel
theorem dX7_tellTogether_8 : decode cX7_tellTogether 8 = .ok (.sipush 9999, 3) := by decide +kernel
theorem dX7_tellTogether_11 : decode cX7_tellTogether 11 = .ok (.istore 4, 2) := by decide +kernel
theorem dX7_tellTogether_13 : decode cX7_tellTogether 13 = .ok (.sipush (-9999), 3) := by decide +kernel
theorem dX7_tellTogether_16 : decode cX7_tellTogether 16 = .ok (.istore 5, 2) := by decide +kernel
theorem dX7_tellTogether_18 : decode cX7_tellTogether 18 = .ok (.iconst 3, 1) := by decide +kernel
theorem dX7_tellTogether_19 : decode cX7_tellTogether 19 = .ok (.iload_n 1, 1) := by decide +kernel
theorem dX7_tellTogether_20 : decode cX7_tellTogether 20 = .ok (.imul, 1) := by decide +kernel
theorem dX7_tellTogether_21 : decode cX7_tellTogether 21 = .ok (.istore 6, 2) := by decide +kernel
theorem dX7_tellTogether_23 : decode cX7_tellTogether 23 = .ok (.iload 6, 2) := by decide +kernel
theorem dX7_tellTogether_25 : decode cX7_tellTogether 25 = .ok (.iconst 3, 1) := by decide +kernel
theorem dX7_tellTogether_26 : decode cX7_tellTogether 26 = .ok (.iload_n 1, 1) := by decide +kernel
theorem dX7_tellTogether_27 : decode cX7_tellTogether 27 = .ok (.imul, 1) := by decide +kernel
theorem dX7_tellTogether_28 : decode cX7_tellTogether 28 = .ok (.iconst 3, 1) := by decide +kernel
theorem dX7_tellTogether_29 : decode cX7_tellTogether 29 = .ok (.iadd, 1) := by decide +kernel
theorem dX7_tellTogether_30 : decode cX7_tellTogether 30 = .ok (.if_icmp .ge 57, 3) := by decide +kernel
theorem dX7_tellTogether_33 : decode cX7_tellTogether 33 = .ok (.aload_n 0, 1) := by decide +kernel
theorem dX7_tellTogether_34 : decode cX7_tellTogether 34 = .ok (.getfield 15, 3) := by decide +kernel
theorem dX7_tellTogether_37 : decode cX7_tellTogether 37 = .ok (.iload 6, 2) := by decide +kernel
theorem dX7_tellTogether_39 : decode cX7_tellTogether 39 = .ok (.baload, 1) := by decide +kernel
theorem dX7_tellTogether_40 : decode cX7_tellTogether 40 = .ok (.ifCond .ne 41, 3) := by decide +kernel
theorem dX7_tellTogether_43 : decode cX7_tellTogether 43 = .ok (.iload_n 3, 1) := by decide +kernel
theorem dX7_tellTogether_44 : decode cX7_tellTogether 44 = .ok (.aload_n 0, 1) := by decide +kernel
theorem dX7_tellTogether_45 : decode cX7_tellTogether 45 = .ok (.getfield 9, 3) := by decide +kernel
theorem dX7_tellTogether_48 : decode cX7_tellTogether 48 = .ok (.iload 6, 2) := by decide +kernel
theorem dX7_tellTogether_50 : decode cX7_tellTogether 50 = .ok (.iaload, 1) := by decide +kernel
theorem dX7_tellTogether_51 : decode cX7_tellTogether 51 = .ok (.iadd, 1) := by decide +kernel
theorem dX7_tellTogether_52 : decode cX7_tellTogether 52 = .ok (.istore_n 3, 1) := by decide +kernel
theorem dX7_tellTogether_53 : decode cX7_tellTogether 53 = .ok (.iload 4, 2) := by decide +kernel
theorem dX7_tellTogether_55 : decode cX7_tellTogether 55 = .ok (.aload_n 0, 1) := by decide +kernel
theorem dX7_tellTogether_56 : decode cX7_tellTogether 56 = .ok (.getfield 9, 3) := by decide +kernel
theorem dX7_tellTogether_59 : decode cX7_tellTogether 59 = .ok (.iload 6, 2) := by decide +kernel
theorem dX7_tellTogether_61 : decode cX7_tellTogether 61 = .ok (.iaload, 1) := by decide +kernel
theorem dX7_tellTogether_62 : decode cX7_tellTogether 62 = .ok (.invokestatic 23, 3) := by decide +kernel
theorem dX7_tellTogether_65 : decode cX7_tellTogether 65 = .ok (.istore 4, 2) := by decide +kernel
theorem dX7_tellTogether_67 : decode cX7_tellTogether 67 = .ok (.iload 5, 2) := by decide +kernel
theorem dX7_tellTogether_69 : decode cX7_tellTogether 69 = .ok (.aload_n 0, 1) := by decide +kernel
theorem dX7_tellTogether_70 : decode cX7_tellTogether 70 = .ok (.getfield 9, 3) := by decide +kernel
theorem dX7_tellTogether_73 : decode cX7_tellTogether 73 = .ok (.iload 6, 2) := by decide +kernel
theorem dX7_tellTogether_75 : decode cX7_tellTogether 75 = .ok (.iaload, 1) := by decide +kernel
theorem dX7_tellTogether_76 : decode cX7_tellTogether 76 = .ok (.invokestatic 29, 3) := by decide +kernel
theorem dX7_tellTogether_79 : decode cX7_tellTogether 79 = .ok (.istore 5, 2) := by decide +kernel
theorem dX7_tellTogether_81 : decode cX7_tellTogether 81 = .ok (.iinc 6 1, 3) := by decide +kernel
theorem dX7_tellTogether_84 : decode cX7_tellTogether 84 = .ok (.goto (-61), 3) := by decide +kernel
theorem dX7_tellTogether_87 : decode cX7_tellTogether 87 = .ok (.iload_n 2, 1) := by decide +kernel
theorem dX7_tellTogether_88 : decode cX7_tellTogether 88 = .ok (.iconst 3, 1) := by decide +kernel
theorem dX7_tellTogether_89 : decode cX7_tellTogether 89 = .ok (.if_icmp .ne 11, 3) := by decide +kernel
theorem dX7_tellTogether_92 : decode cX7_tellTogether 92 = .ok (.iload_n 3, 1) := by decide +kernel
theorem dX7_tellTogether_93 : decode cX7_tellTogether 93 = .ok (.iload 4, 2) := by decide +kernel
theorem dX7_tellTogether_95 : decode cX7_tellTogether 95 = .ok (.isub, 1) := by decide +kernel
theorem dX7_tellTogether_96 : decode cX7_tellTogether 96 = .ok (.iload 5, 2) := by decide +kernel
theorem dX7_tellTogether_98 : decode cX7_tellTogether 98 = .ok (.isub, 1) := by decide +kernel
theorem dX7_tellTogether_99 : decode cX7_tellTogether 99 = .ok (.ireturn, 1) := by decide +kernel
theorem dX7_tellTogether_100 : decode cX7_tellTogether 100 = .ok (.iload_n 2, 1) := by decide +kernel
theorem dX7_tellTogether_101 : decode cX7_tellTogether 101 = .ok (.iconst 2, 1) := by decide +kernel
theorem dX7_tellTogether_102 : decode cX7_tellTogether 102 = .ok (.if_icmp .ne 9, 3) := by decide +kernel
theorem dX7_tellTogether_105 : decode cX7_tellTogether 105 = .ok (.iload_n 3, 1) := by decide +kernel
theorem dX7_tellTogether_106 : decode cX7_tellTogether 106 = .ok (.iconst 2, 1) := by decide +kernel
theorem dX7_tellTogether_107 : decode cX7_tellTogether 107 = .ok (.idiv, 1) := by decide +kernel
theorem dX7_tellTogether_108 : decode cX7_tellTogether 108 = .ok (.goto 4, 3) := by decide +kernel
theorem dX7_tellTogether_111 : decode cX7_tellTogether 111 = .ok (.iload_n 3, 1) := by decide +kernel
theorem dX7_tellTogether_112 : decode cX7_tellTogether 112 = .ok (.ireturn, 1) := by decide +kernel
theorem dX8_init_0 : decode cX8_init 0 = .ok (.aload_n 0, 1) := by decide +kernel
theorem dX8_init_1 : decode cX8_init 1 = .ok (.invokespecial 3, 3) := by decide +kernel
theorem dX8_init_4 : decode cX8_init 4 = .ok (.aload_n 0, 1) := by decide +kernel
theorem dX8_init_5 : decode cX8_init 5 = .ok (.bipush 16, 2) := by decide +kernel
theorem dX8_init_7 : decode cX8_init 7 = .ok (.newarray .int, 2) := by decide +kernel
theorem dX8_init_9 : decode cX8_init 9 = .ok (.putfield 9, 3) := by decide +kernel
theorem dX8_init_12 : decode cX8_init 12 = .ok (.aload_n 0, 1) := by decide +kernel
theorem dX8_init_13 : decode cX8_init 13 = .ok (.bipush 16, 2) := by decide +kernel
theorem dX8_init_15 : decode cX8_init 15 = .ok (.newarray .int, 2) := by decide +kernel
theorem dX8_init_17 : decode cX8_init 17 = .ok (.putfield 15, 3) := by decide +kernel
theorem dX8_init_20 : decode cX8_init 20 = .ok (.aload_n 0, 1) := by decide +kernel
theorem dX8_init_21 : decode cX8_init 21 = .ok (.bipush 16, 2) := by decide +kernel
theorem dX8_init_23 : decode cX8_init 23 = .ok (.newarray .int, 2) := by decide +kernel
theorem dX8_init_25 : decode cX8_init 25 = .ok (.putfield 18, 3) := by decide +kernel
theorem dX8_init_28 : decode cX8_init 28 = .ok (.aload_n 0, 1) := by decide +kernel
theorem dX8_init_29 : decode cX8_init 29 = .ok (.bipush 16, 2) := by decide +kernel
theorem dX8_init_31 : decode cX8_init 31 = .ok (.newarray .int, 2) := by decide +kernel
theorem dX8_init_33 : decode cX8_init 33 = .ok (.putfield 21, 3) := by decide +kernel
theorem dX8_init_36 : decode cX8_init 36 = .ok (.aload_n 0, 1) := by decide +kernel
theorem dX8_init_37 : decode cX8_init 37 = .ok (.bipush 16, 2) := by decide +kernel
theorem dX8_init_39 : decode cX8_init 39 = .ok (.newarray .char, 2) := by decide +kernel
theorem dX8_init_41 : decode cX8_init 41 = .ok (.putfield 24, 3) := by decide +kernel
theorem dX8_init_44 : decode cX8_init 44 = .ok (.return_, 1) := by decide +kernel
theorem dX8_append_0 : decode cX8_append 0 = .ok (.aload_n 0, 1) := by decide +kernel
theorem dX8_append_1 : decode cX8_append 1 = .ok (.getfield 28, 3) := by decide +kernel
theorem dX8_append_4 : decode cX8_append 4 = .ok (.istore_n 3, 1) := by decide +kernel
theorem dX8_append_5 : decode cX8_append 5 = .ok (.aload_n 0, 1) := by decide +kernel
theorem dX8_append_6 : decode cX8_append 6 = .ok (.getfield 9, 3) := by decide +kernel
theorem dX8_append_9 : decode cX8_append 9 = .ok (.iload_n 3, 1) := by decide +kernel
theorem dX8_append_10 : decode cX8_append 10 = .ok (.iload_n 1, 1) := by decide +kernel
theorem dX8_append_11 : decode cX8_append 11 = .ok (.iastore, 1) := by decide +kernel
theorem dX8_append_12 : decode cX8_append 12 = .ok (.aload_n 0, 1) := by decide +kernel
theorem dX8_append_13 : decode cX8_append 13 = .ok (.getfield 15, 3) := by decide +kernel
theorem dX8_append_16 : decode cX8_append 16 = .ok (.iload_n 3, 1) := by decide +kernel
theorem dX8_append_17 : decode cX8_append 17 = .ok (.iload_n 2, 1) := by decide +kernel
theorem dX8_append_18 : decode cX8_append 18 = .ok (.iastore, 1) := by decide +kernel
theorem dX8_append_19 : decode cX8_append 19 = .ok (.aload_n 0, 1) := by decide +kernel
theorem dX8_append_20 : decode cX8_append 20 = .ok (.getfield 24, 3) := by decide +kernel
theorem dX8_append_23 : decode cX8_append 23 = .ok (.iload_n 3, 1) := by decide +kernel
theorem dX8_append_24 : decode cX8_append 24 = .ok (.bipush 45, 2) := by decide +kernel
theorem dX8_append_26 : decode cX8_append 26 = .ok (.castore, 1) := by decide +kernel
theorem dX8_append_27 : decode cX8_append 27 = .ok (.aload_n 0, 1) := by decide +kernel
theorem dX8_append_28 : decode cX8_append 28 = .ok (.dup, 1) := by decide +kernel
theorem dX8_append_29 : decode cX8_append 29 = .ok (.getfield 28, 3) := by decide +kernel
theorem dX8_append_32 : decode cX8_append 32 = .ok (.iconst 1, 1) := by decide +kernel
theorem dX8_append_33 : decode cX8_append 33 = .ok (.iadd, 1) := by decide +kernel
theorem dX8_append_34 : decode cX8_append 34 = .ok (.putfield 28, 3) := by decide +kernel
theorem dX8_append_37 : decode cX8_append 37 = .ok (.iload_n 3, 1) := by decide +kernel
theorem dX8_append_38 : decode cX8_append 38 = .ok (.ireturn, 1) := by decide +kernel
theorem dX8_putBehind_0 : decode cX8_putBehind 0 = .ok (.aload_n 0, 1) := by decide +kernel
theorem dX8_putBehind_1 : decode cX8_putBehind 1 = .ok (.getfield 21, 3) := by decide +kernel
theorem dX8_putBehind_4 : decode cX8_putBehind 4 = .ok (.iload_n 1, 1) := by decide +kernel
theorem dX8_putBehind_5 : decode cX8_putBehind 5 = .ok (.dup2, 1) := by decide +kernel
theorem dX8_putBehind_6 : decode cX8_putBehind 6 = .ok (.iaload, 1) := by decide +kernel
theorem dX8_putBehind_7 : decode cX8_putBehind 7 = .ok (.iconst 1, 1) := by decide +kernel
theorem dX8_putBehind_8 : decode cX8_putBehind 8 = .ok (.iload_n 2, 1) := by decide +kernel
theorem dX8_putBehind_9 : decode cX8_putBehind 9 = .ok (.ishl, 1) := by decide +kernel
theorem dX8_putBehind_10 : decode cX8_putBehind 10 = .ok (.ior, 1) := by decide +kernel
theorem dX8_putBehind_11 : decode cX8_putBehind 11 = .ok (.iastore, 1) := by decide +kernel
theorem dX8_putBehind_12 : decode cX8_putBehind 12 = .ok (.aload_n 0, 1) := by decide +kernel
theorem dX8_putBehind_13 : decode cX8_putBehind 13 = .ok (.getfield 21, 3) := by decide +kernel
theorem dX8_putBehind_16 : decode cX8_putBehind 16 = .ok (.iload_n 1, 1) := by decide +kernel
theorem dX8_putBehind_17 : decode cX8_putBehind 17 = .ok (.iaload, 1) := by decide +kernel
theorem dX8_putBehind_18 : decode cX8_putBehind 18 = .ok (.invokestatic 32, 3) := by decide +kernel
theorem dX8_putBehind_21 : decode cX8_putBehind 21 = .ok (.ireturn, 1) := by decide +kernel
theorem dX8_haveAll_0 : decode cX8_haveAll 0 = .ok (.iload_n 1, 1) := by decide +kernel
theorem dX8_haveAll_1 : decode cX8_haveAll 1 = .ok (.aload_n 0, 1) := by decide +kernel
theorem dX8_haveAll_2 : decode cX8_haveAll 2 = .ok (.getfield 28, 3) := by decide +kernel
theorem dX8_haveAll_5 : decode cX8_haveAll 5 = .ok (.iushr, 1) := by decide +kernel
theorem dX8_haveAll_6 : decode cX8_haveAll 6 = .ok (.ifCond .ne 7, 3) := by decide +kernel
theorem dX8_haveAll_9 : decode cX8_haveAll 9 = .ok (.iconst 1, 1) := by decide +kernel
theorem dX8_haveAll_10 : decode cX8_haveAll 10 = .ok (.goto 4, 3) := by decide +kernel
theorem dX8_haveAll_13 : decode cX8_haveAll 13 = .ok (.iconst 0, 1) := by decide +kernel
theorem dX8_haveAll_14 : decode cX8_haveAll 14 = .ok (.ireturn, 1) := by decide +kernel
theorem dX8_areDone_0 : decode cX8_areDone 0 = .ok (.iload_n 1, 1) := by decide +kernel
theorem dX8_areDone_1 : decode cX8_areDone 1 = .ok (.aload_n 0, 1) := by decide +kernel
theorem dX8_areDone_2 : decode cX8_areDone 2 = .ok (.invokevirtual 38, 3) := by decide +kernel
theorem dX8_areDone_5 : decode cX8_areDone 5 = .ok (.iconst (-1), 1) := by decide +kernel
theorem dX8_areDone_6 : decode cX8_areDone 6 = .ok (.ixor, 1) := by decide +kernel
theorem dX8_areDone_7 : decode cX8_areDone 7 = .ok (.iand, 1) := by decide +kernel
theorem dX8_areDone_8 : decode cX8_areDone 8 = .ok (.ifCond .ne 7, 3) := by decide +kernel
theorem dX8_areDone_11 : decode cX8_areDone 11 = .ok (.iconst 1, 1) := by decide +kernel
theorem dX8_areDone_12 : decode cX8_areDone 12 = .ok (.goto 4, 3) := by decide +kernel
theorem dX8_areDone_15 : decode cX8_areDone 15 = .ok (.iconst 0, 1) := by decide +kernel
theorem dX8_areDone_16 : decode cX8_areDone 16 = .ok (.ireturn, 1) := by decide +kernel
theorem dX8_doneOnes_0 : decode cX8_doneOnes 0 = .ok (.iconst 0, 1) := by decide +kernel
theorem dX8_doneOnes_1 : decode cX8_doneOnes 1 = .ok (.istore_n 1, 1) := by decide +kernel
theorem dX8_doneOnes_2 : decode cX8_doneOnes 2 = .ok (.iconst 0, 1) := by decide +kernel
theorem dX8_doneOnes_3 : decode cX8_doneOnes 3 = .ok (.istore_n 2, 1) := by decide +kernel
theorem dX8_doneOnes_4 : decode cX8_doneOnes 4 = .ok (.iload_n 2, 1) := by decide +kernel
theorem dX8_doneOnes_5 : decode cX8_doneOnes 5 = .ok (.aload_n 0, 1) := by decide +kernel
theorem dX8_doneOnes_6 : decode cX8_doneOnes 6 = .ok (.getfield 28, 3) := by decide +kernel
theorem dX8_doneOnes_9 : decode cX8_doneOnes 9 = .ok (.if_icmp .ge 30, 3) := by decide +kernel
theorem dX8_doneOnes_12 : decode cX8_doneOnes 12 = .ok (.iload_n 1, 1) := by decide +kernel
theorem dX8_doneOnes_13 : decode cX8_doneOnes 13 = .ok (.aload_n 0, 1) := by decide +kernel
theorem dX8_doneOnes_14 : decode cX8_doneOnes 14 = .ok (.getfield 24, 3) := by decide +kernel
theorem dX8_doneOnes_17 : decode cX8_doneOnes 17 = .ok (.iload_n 2, 1) := by decide +kernel
theorem dX8_doneOnes_18 : decode cX8_doneOnes 18 = .ok (.caload, 1) := by decide +kernel
theorem dX8_doneOnes_19 : decode cX8_doneOnes 19 = .ok (.bipush 101, 2) := by decide +kernel
theorem dX8_doneOnes_21 : decode cX8_doneOnes 21 = .ok (.if_icmp .ne 9, 3) := by decide +kernel
theorem dX8_doneOnes_24 : decode cX8_doneOnes 24 = .ok (.iconst 1, 1) := by decide +kernel
theorem dX8_doneOnes_25 : decode cX8_doneOnes 25 = .ok (.iload_n 2, 1) := by decide +kernel
theorem dX8_doneOnes_26 : decode cX8_doneOnes 26 = .ok (.ishl, 1) := by decide +kernel
theorem dX8_doneOnes_27 : decode cX8_doneOnes 27 = .ok (.goto 4, 3) := by decide +kernel
theorem dX8_doneOnes_30 : decode cX8_doneOnes 30 = .ok (.iconst 0, 1) := by decide +kernel
theorem dX8_doneOnes_31 : decode cX8_doneOnes 31 = .ok (.ior, 1) := by decide +kernel
theorem dX8_doneOnes_32 : decode cX8_doneOnes 32 = .ok (.istore_n 1, 1) := by decide +kernel
theorem dX8_doneOnes_33 : decode cX8_doneOnes 33 = .ok (.iinc 2 1, 3) := by decide +kernel
theorem dX8_doneOnes_36 : decode cX8_doneOnes 36 = .ok (.goto (-32), 3) := by decide +kernel
theorem dX8_doneOnes_39 : decode cX8_doneOnes 39 = .ok (.iload_n 1, 1) := by decide +kernel
theorem dX8_doneOnes_40 : decode cX8_doneOnes 40 = .ok (.ireturn, 1) := by decide +kernel
theorem dX8_startAgain_0 : decode cX8_startAgain 0 = .ok (.iconst 0, 1) := by decide +kernel
theorem dX8_startAgain_1 : decode cX8_startAgain 1 = .ok (.istore_n 1, 1) := by decide +kernel
theorem dX8_startAgain_2 : decode cX8_startAgain 2 = .ok (.iload_n 1, 1) := by decide +kernel
theorem dX8_startAgain_3 : decode cX8_startAgain 3 = .ok (.aload_n 0, 1) := by decide +kernel
theorem dX8_startAgain_4 : decode cX8_startAgain 4 = .ok (.getfield 28, 3) := by decide +kernel
theorem dX8_startAgain_7 : decode cX8_startAgain 7 = .ok (.if_icmp .ge 17, 3) := by decide +kernel
theorem dX8_startAgain_10 : decode cX8_startAgain 10 = .ok (.aload_n 0, 1) := by decide +kernel
theorem dX8_startAgain_11 : decode cX8_startAgain 11 = .ok (.getfield 24, 3) := by decide +kernel
theorem dX8_startAgain_14 : decode cX8_startAgain 14 = .ok (.iload_n 1, 1) := by decide +kernel
theorem dX8_startAgain_15 : decode cX8_startAgain 15 = .ok (.bipush 45, 2) := by decide +kernel
theorem dX8_startAgain_17 : decode cX8_startAgain 17 = .ok (.castore, 1) := by decide +kernel
theorem dX8_startAgain_18 : decode cX8_startAgain 18 = .ok (.iinc 1 1, 3) := by decide +kernel
theorem dX8_startAgain_21 : decode cX8_startAgain 21 = .ok (.goto (-19), 3) := by decide +kernel
theorem dX8_startAgain_24 : decode cX8_startAgain 24 = .ok (.return_, 1) := by decide +kernel
theorem dX8_undoFrom_0 : decode cX8_undoFrom 0 = .ok (.iconst 0, 1) := by decide +kernel
theorem dX8_undoFrom_1 : decode cX8_undoFrom 1 = .ok (.istore_n 2, 1) := by decide +kernel
theorem dX8_undoFrom_2 : decode cX8_undoFrom 2 = .ok (.iconst 0, 1) := by decide +kernel
theorem dX8_undoFrom_3 : decode cX8_undoFrom 3 = .ok (.istore_n 3, 1) := by decide +kernel
theorem dX8_undoFrom_4 : decode cX8_undoFrom 4 = .ok (.iload_n 3, 1) := by decide +kernel
theorem dX8_undoFrom_5 : decode cX8_undoFrom 5 = .ok (.aload_n 0, 1) := by decide +kernel
theorem dX8_undoFrom_6 : decode cX8_undoFrom 6 = .ok (.getfield 28, 3) := by decide +kernel
theorem dX8_undoFrom_9 : decode cX8_undoFrom 9 = .ok (.if_icmp .ge 41, 3) := by decide +kernel
theorem dX8_undoFrom_12 : decode cX8_undoFrom 12 = .ok (.aload_n 0, 1) := by decide +kernel
theorem dX8_undoFrom_13 : decode cX8_undoFrom 13 = .ok (.getfield 9, 3) := by decide +kernel
theorem dX8_undoFrom_16 : decode cX8_undoFrom 16 = .ok (.iload_n 3, 1) := by decide +kernel
theorem dX8_undoFrom_17 : decode cX8_undoFrom 17 = .ok (.iaload, 1) := by decide +kernel
theorem dX8_undoFrom_18 : decode cX8_undoFrom 18 = .ok (.iload_n 1, 1) := by decide +kernel
theorem dX8_undoFrom_19 : decode cX8_undoFrom 19 = .ok (.if_icmp .lt 25, 3) := by decide +kernel
theorem dX8_undoFrom_22 : decode cX8_undoFrom 22 = .ok (.aload_n 0, 1) := by decide +kernel
theorem dX8_undoFrom_23 : decode cX8_undoFrom 23 = .ok (.getfield 24, 3) := by decide +kernel
theorem dX8_undoFrom_26 : decode cX8_undoFrom 26 = .ok (.iload_n 3, 1) := by decide +kernel
theorem dX8_undoFrom_27 : decode cX8_undoFrom 27 = .ok (.caload, 1) := by decide +kernel
theorem dX8_undoFrom_28 : decode cX8_undoFrom 28 = .ok (.bipush 45, 2) := by decide +kernel
theorem dX8_undoFrom_30 : decode cX8_undoFrom 30 = .ok (.if_icmp .eq 14, 3) := by decide +kernel
theorem dX8_undoFrom_33 : decode cX8_undoFrom 33 = .ok (.aload_n 0, 1) := by decide +kernel
theorem dX8_undoFrom_34 : decode cX8_undoFrom 34 = .ok (.getfield 24, 3) := by decide +kernel
theorem dX8_undoFrom_37 : decode cX8_undoFrom 37 = .ok (.iload_n 3, 1) := by decide +kernel
theorem dX8_undoFrom_38 : decode cX8_undoFrom 38 = .ok (.bipush 45, 2) := by decide +kernel
theorem dX8_undoFrom_40 : decode cX8_undoFrom 40 = .ok (.castore, 1) := by decide +kernel
theorem dX8_undoFrom_41 : decode cX8_undoFrom 41 = .ok (.iinc 2 1, 3) := by decide +kernel
theorem dX8_undoFrom_44 : decode cX8_undoFrom 44 = .ok (.iinc 3 1, 3) := by decide +kernel
theorem dX8_undoFrom_47 : decode cX8_undoFrom 47 = .ok (.goto (-43), 3) := by decide +kernel
theorem dX8_undoFrom_50 : decode cX8_undoFrom 50 = .ok (.iload_n 2, 1) := by decide +kernel
theorem dX8_undoFrom_51 : decode cX8_undoFrom 51 = .ok (.ireturn, 1) := by decide +kernel
theorem dX8_work_0 : decode cX8_work 0 = .ok (.iconst 0, 1) := by decide +kernel
theorem dX8_work_1 : decode cX8_work 1 = .ok (.istore_n 2, 1) := by decide +kernel
theorem dX8_work_2 : decode cX8_work 2 = .ok (.iload_n 2, 1) := by decide +kernel
theorem dX8_work_3 : decode cX8_work 3 = .ok (.aload_n 0, 1) := by decide +kernel
theorem dX8_work_4 : decode cX8_work 4 = .ok (.getfield 28, 3) := by decide +kernel
theorem dX8_work_7 : decode cX8_work 7 = .ok (.if_icmp .ge 52, 3) := by decide +kernel
theorem dX8_work_10 : decode cX8_work 10 = .ok (.aload_n 0, 1) := by decide +kernel
theorem dX8_work_11 : decode cX8_work 11 = .ok (.getfield 24, 3) := by decide +kernel
theorem dX8_work_14 : decode cX8_work 14 = .ok (.iload_n 2, 1) := by decide +kernel
theorem dX8_work_15 : decode cX8_work 15 = .ok (.caload, 1) := by decide +kernel
theorem dX8_work_16 : decode cX8_work 16 = .ok (.bipush 114, 2) := by decide +kernel
theorem dX8_work_18 : decode cX8_work 18 = .ok (.if_icmp .ne 35, 3) := by decide +kernel
theorem dX8_work_21 : decode cX8_work 21 = .ok (.aload_n 0, 1) := by decide +kernel
theorem dX8_work_22 : decode cX8_work 22 = .ok (.getfield 18, 3) := by decide +kernel
theorem dX8_work_25 : decode cX8_work 25 = .ok (.iload_n 2, 1) := by decide +kernel
theorem dX8_work_26 : decode cX8_work 26 = .ok (.dup2, 1) := by decide +kernel
theorem dX8_work_27 : decode cX8_work 27 = .ok (.iaload, 1) := by decide +kernel
theorem dX8_work_28 : decode cX8_work 28 = .ok (.iconst 1, 1) := by decide +kernel
theorem dX8_work_29 : decode cX8_work 29 = .ok (.isub, 1) := by decide +kernel
theorem dX8_work_30 : decode cX8_work 30 = .ok (.iastore, 1) := by decide +kernel
theorem dX8_work_31 : decode cX8_work 31 = .ok (.aload_n 0, 1) := by decide +kernel
theorem dX8_work_32 : decode cX8_work 32 = .ok (.getfield 24, 3) := by decide +kernel
theorem dX8_work_35 : decode cX8_work 35 = .ok (.iload_n 2, 1) := by decide +kernel
theorem dX8_work_36 : decode cX8_work 36 = .ok (.aload_n 0, 1) := by decide +kernel
theorem dX8_work_37 : decode cX8_work 37 = .ok (.getfield 18, 3) := by decide +kernel
theorem dX8_work_40 : decode cX8_work 40 = .ok (.iload_n 2, 1) := by decide +kernel
theorem dX8_work_41 : decode cX8_work 41 = .ok (.iaload, 1) := by decide +kernel
theorem dX8_work_42 : decode cX8_work 42 = .ok (.ifCond .le 8, 3) := by decide +kernel
theorem dX8_work_45 : decode cX8_work 45 = .ok (.bipush 114, 2) := by decide +kernel
theorem dX8_work_47 : decode cX8_work 47 = .ok (.goto 5, 3) := by decide +kernel
theorem dX8_work_50 : decode cX8_work 50 = .ok (.bipush 101, 2) := by decide +kernel
theorem dX8_work_52 : decode cX8_work 52 = .ok (.castore, 1) := by decide +kernel
theorem dX8_work_53 : decode cX8_work 53 = .ok (.iinc 2 1, 3) := by decide +kernel
theorem dX8_work_56 : decode cX8_work 56 = .ok (.goto (-54), 3) := by decide +kernel
theorem dX8_work_59 : decode cX8_work 59 = .ok (.aload_n 0, 1) := by decide +kernel
theorem dX8_work_60 : decode cX8_work 60 = .ok (.invokevirtual 38, 3) := by decide +kernel
theorem dX8_work_63 : decode cX8_work 63 = .ok (.istore_n 2, 1) := by decide +kernel
theorem dX8_work_64 : decode cX8_work 64 = .ok (.iconst 0, 1) := by decide +kernel
theorem dX8_work_65 : decode cX8_work 65 = .ok (.istore_n 3, 1) := by decide +kernel
theorem dX8_work_66 : decode cX8_work 66 = .ok (.iload_n 3, 1) := by decide +kernel
theorem dX8_work_67 : decode cX8_work 67 = .ok (.aload_n 0, 1) := by decide +kernel
theorem dX8_work_68 : decode cX8_work 68 = .ok (.getfield 28, 3) := by decide +kernel
theorem dX8_work_71 : decode cX8_work 71 = .ok (.if_icmp .ge 63, 3) := by decide +kernel
theorem dX8_work_74 : decode cX8_work 74 = .ok (.aload_n 0, 1) := by decide +kernel
theorem dX8_work_75 : decode cX8_work 75 = .ok (.getfield 24, 3) := by decide +kernel
theorem dX8_work_78 : decode cX8_work 78 = .ok (.iload_n 3, 1) := by decide +kernel
theorem dX8_work_79 : decode cX8_work 79 = .ok (.caload, 1) := by decide +kernel
theorem dX8_work_80 : decode cX8_work 80 = .ok (.bipush 45, 2) := by decide +kernel
theorem dX8_work_82 : decode cX8_work 82 = .ok (.if_icmp .ne 46, 3) := by decide +kernel
theorem dX8_work_85 : decode cX8_work 85 = .ok (.aload_n 0, 1) := by decide +kernel
theorem dX8_work_86 : decode cX8_work 86 = .ok (.getfield 9, 3) := by decide +kernel
theorem dX8_work_89 : decode cX8_work 89 = .ok (.iload_n 3, 1) := by decide +kernel
theorem dX8_work_90 : decode cX8_work 90 = .ok (.iaload, 1) := by decide +kernel
theorem dX8_work_91 : decode cX8_work 91 = .ok (.iload_n 1, 1) := by decide +kernel
theorem dX8_work_92 : decode cX8_work 92 = .ok (.if_icmp .gt 36, 3) := by decide +kernel
theorem dX8_work_95 : decode cX8_work 95 = .ok (.aload_n 0, 1) := by decide +kernel
theorem dX8_work_96 : decode cX8_work 96 = .ok (.getfield 21, 3) := by decide +kernel
theorem dX8_work_99 : decode cX8_work 99 = .ok (.iload_n 3, 1) := by decide +kernel
theorem dX8_work_100 : decode cX8_work 100 = .ok (.iaload, 1) := by decide +kernel
theorem dX8_work_101 : decode cX8_work 101 = .ok (.iload_n 2, 1) := by decide +kernel
theorem dX8_work_102 : decode cX8_work 102 = .ok (.iconst (-1), 1) := by decide +kernel
theorem dX8_work_103 : decode cX8_work 103 = .ok (.ixor, 1) := by decide +kernel
theorem dX8_work_104 : decode cX8_work 104 = .ok (.iand, 1) := by decide +kernel
theorem dX8_work_105 : decode cX8_work 105 = .ok (.ifCond .ne 23, 3) := by decide +kernel
theorem dX8_work_108 : decode cX8_work 108 = .ok (.aload_n 0, 1) := by decide +kernel
theorem dX8_work_109 : decode cX8_work 109 = .ok (.getfield 24, 3) := by decide +kernel
theorem dX8_work_112 : decode cX8_work 112 = .ok (.iload_n 3, 1) := by decide +kernel
theorem dX8_work_113 : decode cX8_work 113 = .ok (.bipush 114, 2) := by decide +kernel
theorem dX8_work_115 : decode cX8_work 115 = .ok (.castore, 1) := by decide +kernel
theorem dX8_work_116 : decode cX8_work 116 = .ok (.aload_n 0, 1) := by decide +kernel
theorem dX8_work_117 : decode cX8_work 117 = .ok (.getfield 18, 3) := by decide +kernel
theorem dX8_work_120 : decode cX8_work 120 = .ok (.iload_n 3, 1) := by decide +kernel
theorem dX8_work_121 : decode cX8_work 121 = .ok (.aload_n 0, 1) := by decide +kernel
theorem dX8_work_122 : decode cX8_work 122 = .ok (.getfield 15, 3) := by decide +kernel
theorem dX8_work_125 : decode cX8_work 125 = .ok (.iload_n 3, 1) := by decide +kernel
theorem dX8_work_126 : decode cX8_work 126 = .ok (.iaload, 1) := by decide +kernel
theorem dX8_work_127 : decode cX8_work 127 = .ok (.iastore, 1) := by decide +kernel
theorem dX8_work_128 : decode cX8_work 128 = .ok (.iinc 3 1, 3) := by decide +kernel
theorem dX8_work_131 : decode cX8_work 131 = .ok (.goto (-65), 3) := by decide +kernel
theorem dX8_work_134 : decode cX8_work 134 = .ok (.return_, 1) := by decide +kernel
theorem dX9_init_0 : decode cX9_init 0 = .ok (.aload_n 0, 1) := by decide +kernel
theorem dX9_init_1 : decode cX9_init 1 = .ok (.invokespecial 3, 3) := by decide +kernel
theorem dX9_init_4 : decode cX9_init 4 = .ok (.aload_n 0, 1) := by decide +kernel
theorem dX9_init_5 : decode cX9_init 5 = .ok (.iconst 3, 1) := by decide +kernel
theorem dX9_init_6 : decode cX9_init 6 = .ok (.newarray .int, 2) := by decide +kernel
theorem dX9_init_8 : decode cX9_init 8 = .ok (.putfield 9, 3) := by decide +kernel
theorem dX9_init_11 : decode cX9_init 11 = .ok (.aload_n 0, 1) := by decide +kernel
theorem dX9_init_12 : decode cX9_init 12 = .ok (.iconst 3, 1) := by decide +kernel
theorem dX9_init_13 : decode cX9_init 13 = .ok (.newarray .int, 2) := by decide +kernel
theorem dX9_init_15 : decode cX9_init 15 = .ok (.putfield 15, 3) := by decide +kernel
theorem dX9_init_18 : decode cX9_init 18 = .ok (.aload_n 0, 1) := by decide +kernel
theorem dX9_init_19 : decode cX9_init 19 = .ok (.iconst 3, 1) := by decide +kernel
theorem dX9_init_20 : decode cX9_init 20 = .ok (.newarray .int, 2) := by decide +kernel
theorem dX9_init_22 : decode cX9_init 22 = .ok (.putfield 18, 3) := by decide +kernel
theorem dX9_init_25 : decode cX9_init 25 = .ok (.aload_n 0, 1) := by decide +kernel
theorem dX9_init_26 : decode cX9_init 26 = .ok (.iconst 3, 1) := by decide +kernel
theorem dX9_init_27 : decode cX9_init 27 = .ok (.newarray .int, 2) := by decide +kernel
theorem dX9_init_29 : decode cX9_init 29 = .ok (.putfield 21, 3) := by decide +kernel
theorem dX9_init_32 : decode cX9_init 32 = .ok (.aload_n 0, 1) := by decide +kernel
theorem dX9_init_33 : decode cX9_init 33 = .ok (.iconst 3, 1) := by decide +kernel
theorem dX9_init_34 : decode cX9_init 34 = .ok (.newarray .boolean, 2) := by decide +kernel
theorem dX9_init_36 : decode cX9_init 36 = .ok (.putfield 24, 3) := by decide +kernel
theorem dX9_init_39 : decode cX9_init 39 = .ok (.return_, 1) := by decide +kernel
theorem dX9_define_0 : decode cX9_define 0 = .ok (.aload_n 0, 1) := by decide +kernel
theorem dX9_define_1 : decode cX9_define 1 = .ok (.getfield 9, 3) := by decide +kernel
theorem dX9_define_4 : decode cX9_define 4 = .ok (.iload_n 1, 1) := by decide +kernel
theorem dX9_define_5 : decode cX9_define 5 = .ok (.iload_n 2, 1) := by decide +kernel
theorem dX9_define_6 : decode cX9_define 6 = .ok (.iastore, 1) := by decide +kernel
theorem dX9_define_7 : decode cX9_define 7 = .ok (.aload_n 0, 1) := by decide +kernel
theorem dX9_define_8 : decode cX9_define 8 = .ok (.getfield 15, 3) := by decide +kernel
theorem dX9_define_11 : decode cX9_define 11 = .ok (.iload_n 1, 1) := by decide +kernel
theorem dX9_define_12 : decode cX9_define 12 = .ok (.iload_n 3, 1) := by decide +kernel
theorem dX9_define_13 : decode cX9_define 13 = .ok (.iastore, 1) := by decide +kernel
theorem dX9_define_14 : decode cX9_define 14 = .ok (.aload_n 0, 1) := by decide +kernel
theorem dX9_define_15 : decode cX9_define 15 = .ok (.getfield 18, 3) := by decide +kernel
theorem dX9_define_18 : decode cX9_define 18 = .ok (.iload_n 1, 1) := by decide +kernel
theorem dX9_define_19 : decode cX9_define 19 = .ok (.iload 4, 2) := by decide +kernel
theorem dX9_define_21 : decode cX9_define 21 = .ok (.iastore, 1) := by decide +kernel
theorem dX9_define_22 : decode cX9_define 22 = .ok (.aload_n 0, 1) := by decide +kernel
theorem dX9_define_23 : decode cX9_define 23 = .ok (.getfield 21, 3) := by decide +kernel
theorem dX9_define_26 : decode cX9_define 26 = .ok (.iload_n 1, 1) := by decide +kernel
theorem dX9_define_27 : decode cX9_define 27 = .ok (.aload_n 0, 1) := by decide +kernel
theorem dX9_define_28 : decode cX9_define 28 = .ok (.getfield 21, 3) := by decide +kernel
theorem dX9_define_31 : decode cX9_define 31 = .ok (.iload_n 1, 1) := by decide +kernel
theorem dX9_define_32 : decode cX9_define 32 = .ok (.iaload, 1) := by decide +kernel
theorem dX9_define_33 : decode cX9_define 33 = .ok (.iload_n 2, 1) := by decide +kernel
theorem dX9_define_34 : decode cX9_define 34 = .ok (.invokestatic 28, 3) := by decide +kernel
theorem dX9_define_37 : decode cX9_define 37 = .ok (.iastore, 1) := by decide +kernel
theorem dX9_define_38 : decode cX9_define 38 = .ok (.aload_n 0, 1) := by decide +kernel
theorem dX9_define_39 : decode cX9_define 39 = .ok (.getfield 21, 3) := by decide +kernel
theorem dX9_define_42 : decode cX9_define 42 = .ok (.iload_n 1, 1) := by decide +kernel
theorem dX9_define_43 : decode cX9_define 43 = .ok (.iaload, 1) := by decide +kernel
theorem dX9_define_44 : decode cX9_define 44 = .ok (.ireturn, 1) := by decide +kernel
theorem dX9_takeOut_0 : decode cX9_takeOut 0 = .ok (.aload_n 0, 1) := by decide +kernel
theorem dX9_takeOut_1 : decode cX9_takeOut 1 = .ok (.getfield 21, 3) := by decide +kernel
theorem dX9_takeOut_4 : decode cX9_takeOut 4 = .ok (.iload_n 1, 1) := by decide +kernel
theorem dX9_takeOut_5 : decode cX9_takeOut 5 = .ok (.iaload, 1) := by decide +kernel
theorem dX9_takeOut_6 : decode cX9_takeOut 6 = .ok (.iload_n 2, 1) := by decide +kernel
theorem dX9_takeOut_7 : decode cX9_takeOut 7 = .ok (.invokestatic 28, 3) := by decide +kernel
theorem dX9_takeOut_10 : decode cX9_takeOut 10 = .ok (.istore_n 3, 1) := by decide +kernel
theorem dX9_takeOut_11 : decode cX9_takeOut 11 = .ok (.aload_n 0, 1) := by decide +kernel
theorem dX9_takeOut_12 : decode cX9_takeOut 12 = .ok (.getfield 21, 3) := by decide +kernel
theorem dX9_takeOut_15 : decode cX9_takeOut 15 = .ok (.iload_n 1, 1) := by decide +kernel
theorem dX9_takeOut_16 : decode cX9_takeOut 16 = .ok (.dup2, 1) := by decide +kernel
theorem dX9_takeOut_17 : decode cX9_takeOut 17 = .ok (.iaload, 1) := by decide +kernel
theorem dX9_takeOut_18 : decode cX9_takeOut 18 = .ok (.iload_n 3, 1) := by decide +kernel
theorem dX9_takeOut_19 : decode cX9_takeOut 19 = .ok (.isub, 1) := by decide +kernel
theorem dX9_takeOut_20 : decode cX9_takeOut 20 = .ok (.iastore, 1) := by decide +kernel
theorem dX9_takeOut_21 : decode cX9_takeOut 21 = .ok (.iload_n 3, 1) := by decide +kernel
theorem dX9_takeOut_22 : decode cX9_takeOut 22 = .ok (.ireturn, 1) := by decide +kernel
theorem dX9_boilAndFill_0 : decode cX9_boilAndFill 0 = .ok (.iconst 0, 1) := by decide +kernel
theorem dX9_boilAndFill_1 : decode cX9_boilAndFill 1 = .ok (.istore_n 1, 1) := by decide +kernel
theorem dX9_boilAndFill_2 : decode cX9_boilAndFill 2 = .ok (.iload_n 1, 1) := by decide +kernel
theorem dX9_boilAndFill_3 : decode cX9_boilAndFill 3 = .ok (.iconst 3, 1) := by decide +kernel
theorem dX9_boilAndFill_4 : decode cX9_boilAndFill 4 = .ok (.if_icmp .ge 72, 3) := by decide +kernel
theorem dX9_boilAndFill_7 : decode cX9_boilAndFill 7 = .ok (.aload_n 0, 1) := by decide +kernel
theorem dX9_boilAndFill_8 : decode cX9_boilAndFill 8 = .ok (.getfield 21, 3) := by decide +kernel
theorem dX9_boilAndFill_11 : decode cX9_boilAndFill 11 = .ok (.iload_n 1, 1) := by decide +kernel
theorem dX9_boilAndFill_12 : decode cX9_boilAndFill 12 = .ok (.dup2, 1) := by decide +kernel
theorem dX9_boilAndFill_13 : decode cX9_boilAndFill 13 = .ok (.iaload, 1) := by decide +kernel
theorem dX9_boilAndFill_14 : decode cX9_boilAndFill 14 = .ok (.aload_n 0, 1) := by decide +kernel
theorem dX9_boilAndFill_15 : decode cX9_boilAndFill 15 = .ok (.getfield 21, 3) := by decide +kernel
theorem dX9_boilAndFill_18 : decode cX9_boilAndFill 18 = .ok (.iload_n 1, 1) := by decide +kernel
theorem dX9_boilAndFill_19 : decode cX9_boilAndFill 19 = .ok (.iaload, 1) := by decide +kernel
theorem dX9_boilAndFill_20 : decode cX9_boilAndFill 20 = .ok (.aload_n 0, 1) := by decide +kernel
theorem dX9_boilAndFill_21 : decode cX9_boilAndFill 21 = .ok (.getfield 18, 3) := by decide +kernel
theorem dX9_boilAndFill_24 : decode cX9_boilAndFill 24 = .ok (.iload_n 1, 1) := by decide +kernel
theorem dX9_boilAndFill_25 : decode cX9_boilAndFill 25 = .ok (.iaload, 1) := by decide +kernel
theorem dX9_boilAndFill_26 : decode cX9_boilAndFill 26 = .ok (.imul, 1) := by decide +kernel
theorem dX9_boilAndFill_27 : decode cX9_boilAndFill 27 = .ok (.sipush 1000, 3) := by decide +kernel
theorem dX9_boilAndFill_30 : decode cX9_boilAndFill 30 = .ok (.idiv, 1) := by decide +kernel
theorem dX9_boilAndFill_31 : decode cX9_boilAndFill 31 = .ok (.isub, 1) := by decide +kernel
theorem dX9_boilAndFill_32 : decode cX9_boilAndFill 32 = .ok (.iastore, 1) := by decide +kernel
theorem dX9_boilAndFill_33 : decode cX9_boilAndFill 33 = .ok (.aload_n 0, 1) := by decide +kernel
theorem dX9_boilAndFill_34 : decode cX9_boilAndFill 34 = .ok (.getfield 24, 3) := by decide +kernel
theorem dX9_boilAndFill_37 : decode cX9_boilAndFill 37 = .ok (.iload_n 1, 1) := by decide +kernel
theorem dX9_boilAndFill_38 : decode cX9_boilAndFill 38 = .ok (.baload, 1) := by decide +kernel
theorem dX9_boilAndFill_39 : decode cX9_boilAndFill 39 = .ok (.ifCond .eq 31, 3) := by decide +kernel
theorem dX9_boilAndFill_42 : decode cX9_boilAndFill 42 = .ok (.aload_n 0, 1) := by decide +kernel
theorem dX9_boilAndFill_43 : decode cX9_boilAndFill 43 = .ok (.getfield 21, 3) := by decide +kernel
theorem dX9_boilAndFill_46 : decode cX9_boilAndFill 46 = .ok (.iload_n 1, 1) := by decide +kernel
theorem dX9_boilAndFill_47 : decode cX9_boilAndFill 47 = .ok (.aload_n 0, 1) := by decide +kernel
theorem dX9_boilAndFill_48 : decode cX9_boilAndFill 48 = .ok (.getfield 9, 3) := by decide +kernel
theorem dX9_boilAndFill_51 : decode cX9_boilAndFill 51 = .ok (.iload_n 1, 1) := by decide +kernel
theorem dX9_boilAndFill_52 : decode cX9_boilAndFill 52 = .ok (.iaload, 1) := by decide +kernel
theorem dX9_boilAndFill_53 : decode cX9_boilAndFill 53 = .ok (.aload_n 0, 1) := by decide +kernel
theorem dX9_boilAndFill_54 : decode cX9_boilAndFill 54 = .ok (.getfield 21, 3) := by decide +kernel
theorem dX9_boilAndFill_57 : decode cX9_boilAndFill 57 = .ok (.iload_n 1, 1) := by decide +kernel
theorem dX9_boilAndFill_58 : decode cX9_boilAndFill 58 = .ok (.iaload, 1) := by decide +kernel
theorem dX9_boilAndFill_59 : decode cX9_boilAndFill 59 = .ok (.aload_n 0, 1) := by decide +kernel
theorem dX9_boilAndFill_60 : decode cX9_boilAndFill 60 = .ok (.getfield 15, 3) := by decide +kernel
theorem dX9_boilAndFill_63 : decode cX9_boilAndFill 63 = .ok (.iload_n 1, 1) := by decide +kernel
theorem dX9_boilAndFill_64 : decode cX9_boilAndFill 64 = .ok (.iaload, 1) := by decide +kernel
theorem dX9_boilAndFill_65 : decode cX9_boilAndFill 65 = .ok (.iadd, 1) := by decide +kernel
theorem dX9_boilAndFill_66 : decode cX9_boilAndFill 66 = .ok (.invokestatic 28, 3) := by decide +kernel
theorem dX9_boilAndFill_69 : decode cX9_boilAndFill 69 = .ok (.iastore, 1) := by decide +kernel
theorem dX9_boilAndFill_70 : decode cX9_boilAndFill 70 = .ok (.iinc 1 1, 3) := by decide +kernel
theorem dX9_boilAndFill_73 : decode cX9_boilAndFill 73 = .ok (.goto (-71), 3) := by decide +kernel
theorem dX9_boilAndFill_76 : decode cX9_boilAndFill 76 = .ok (.return_, 1) := by decide +kernel
theorem dX9_areWithinRoom_0 : decode cX9_areWithinRoom 0 = .ok (.iconst 0, 1) := by decide +kernel
theorem dX9_areWithinRoom_1 : decode cX9_areWithinRoom 1 = .ok (.istore_n 1, 1) := by decide +kernel
theorem dX9_areWithinRoom_2 : decode cX9_areWithinRoom 2 = .ok (.iload_n 1, 1) := by decide +kernel
theorem dX9_areWithinRoom_3 : decode cX9_areWithinRoom 3 = .ok (.iconst 3, 1) := by decide +kernel
theorem dX9_areWithinRoom_4 : decode cX9_areWithinRoom 4 = .ok (.if_icmp .ge 26, 3) := by decide +kernel
theorem dX9_areWithinRoom_7 : decode cX9_areWithinRoom 7 = .ok (.aload_n 0, 1) := by decide +kernel
theorem dX9_areWithinRoom_8 : decode cX9_areWithinRoom 8 = .ok (.getfield 21, 3) := by decide +kernel
theorem dX9_areWithinRoom_11 : decode cX9_areWithinRoom 11 = .ok (.iload_n 1, 1) := by decide +kernel
theorem dX9_areWithinRoom_12 : decode cX9_areWithinRoom 12 = .ok (.iaload, 1) := by decide +kernel
theorem dX9_areWithinRoom_13 : decode cX9_areWithinRoom 13 = .ok (.aload_n 0, 1) := by decide +kernel
theorem dX9_areWithinRoom_14 : decode cX9_areWithinRoom 14 = .ok (.getfield 9, 3) := by decide +kernel
theorem dX9_areWithinRoom_17 : decode cX9_areWithinRoom 17 = .ok (.iload_n 1, 1) := by decide +kernel
theorem dX9_areWithinRoom_18 : decode cX9_areWithinRoom 18 = .ok (.iaload, 1) := by decide +kernel
theorem dX9_areWithinRoom_19 : decode cX9_areWithinRoom 19 = .ok (.if_icmp .le 5, 3) := by decide +kernel
theorem dX9_areWithinRoom_22 : decode cX9_areWithinRoom 22 = .ok (.iconst 0, 1) := by decide +kernel
theorem dX9_areWithinRoom_23 : decode cX9_areWithinRoom 23 = .ok (.ireturn, 1) := by decide +kernel
theorem dX9_areWithinRoom_24 : decode cX9_areWithinRoom 24 = .ok (.iinc 1 1, 3) := by decide +kernel
theorem dX9_areWithinRoom_27 : decode cX9_areWithinRoom 27 = .ok (.goto (-25), 3) := by decide +kernel
theorem dX9_areWithinRoom_30 : decode cX9_areWithinRoom 30 = .ok (.iconst 1, 1) := by decide +kernel
theorem dX9_areWithinRoom_31 : decode cX9_areWithinRoom 31 = .ok (.ireturn, 1) := by decide +kernel
theorem dX10_init_0 : decode cX10_init 0 = .ok (.aload_n 0, 1) := by decide +kernel
theorem dX10_init_1 : decode cX10_init 1 = .ok (.invokespecial 1, 3) := by decide +kernel
theorem dX10_init_4 : decode cX10_init 4 = .ok (.aload_n 0, 1) := by decide +kernel
theorem dX10_init_5 : decode cX10_init 5 = .ok (.new 7, 3) := by decide +kernel
theorem dX10_init_8 : decode cX10_init 8 = .ok (.dup, 1) := by decide +kernel
theorem dX10_init_9 : decode cX10_init 9 = .ok (.invokespecial 9, 3) := by decide +kernel
theorem dX10_init_12 : decode cX10_init 12 = .ok (.putfield 10, 3) := by decide +kernel
theorem dX10_init_15 : decode cX10_init 15 = .ok (.aload_n 0, 1) := by decide +kernel
theorem dX10_init_16 : decode cX10_init 16 = .ok (.new 16, 3) := by decide +kernel
theorem dX10_init_19 : decode cX10_init 19 = .ok (.dup, 1) := by decide +kernel
theorem dX10_init_20 : decode cX10_init 20 = .ok (.invokespecial 18, 3) := by decide +kernel
theorem dX10_init_23 : decode cX10_init 23 = .ok (.putfield 19, 3) := by decide +kernel
theorem dX10_init_26 : decode cX10_init 26 = .ok (.aload_n 0, 1) := by decide +kernel
theorem dX10_init_27 : decode cX10_init 27 = .ok (.new 23, 3) := by decide +kernel
theorem dX10_init_30 : decode cX10_init 30 = .ok (.dup, 1) := by decide +kernel
theorem dX10_init_31 : decode cX10_init 31 = .ok (.invokespecial 25, 3) := by decide +kernel
theorem dX10_init_34 : decode cX10_init 34 = .ok (.putfield 26, 3) := by decide +kernel
theorem dX10_init_37 : decode cX10_init 37 = .ok (.aload_n 0, 1) := by decide +kernel
theorem dX10_init_38 : decode cX10_init 38 = .ok (.new 30, 3) := by decide +kernel
theorem dX10_init_41 : decode cX10_init 41 = .ok (.dup, 1) := by decide +kernel
theorem dX10_init_42 : decode cX10_init 42 = .ok (.invokespecial 32, 3) := by decide +kernel
theorem dX10_init_45 : decode cX10_init 45 = .ok (.putfield 33, 3) := by decide +kernel
theorem dX10_init_48 : decode cX10_init 48 = .ok (.aload_n 0, 1) := by decide +kernel
theorem dX10_init_49 : decode cX10_init 49 = .ok (.new 37, 3) := by decide +kernel
theorem dX10_init_52 : decode cX10_init 52 = .ok (.dup, 1) := by decide +kernel
theorem dX10_init_53 : decode cX10_init 53 = .ok (.invokespecial 39, 3) := by decide +kernel
theorem dX10_init_56 : decode cX10_init 56 = .ok (.putfield 40, 3) := by decide +kernel
theorem dX10_init_59 : decode cX10_init 59 = .ok (.aload_n 0, 1) := by decide +kernel
theorem dX10_init_60 : decode cX10_init 60 = .ok (.new 44, 3) := by decide +kernel
theorem dX10_init_63 : decode cX10_init 63 = .ok (.dup, 1) := by decide +kernel
theorem dX10_init_64 : decode cX10_init 64 = .ok (.invokespecial 46, 3) := by decide +kernel
theorem dX10_init_67 : decode cX10_init 67 = .ok (.putfield 47, 3) := by decide +kernel
theorem dX10_init_70 : decode cX10_init 70 = .ok (.aload_n 0, 1) := by decide +kernel
theorem dX10_init_71 : decode cX10_init 71 = .ok (.new 51, 3) := by decide +kernel
theorem dX10_init_74 : decode cX10_init 74 = .ok (.dup, 1) := by decide +kernel
theorem dX10_init_75 : decode cX10_init 75 = .ok (.invokespecial 53, 3) := by decide +kernel
theorem dX10_init_78 : decode cX10_init 78 = .ok (.putfield 54, 3) := by decide +kernel
theorem dX10_init_81 : decode cX10_init 81 = .ok (.aload_n 0, 1) := by decide +kernel
theorem dX10_init_82 : decode cX10_init 82 = .ok (.new 58, 3) := by decide +kernel
theorem dX10_init_85 : decode cX10_init 85 = .ok (.dup, 1) := by decide +kernel
theorem dX10_init_86 : decode cX10_init 86 = .ok (.invokespecial 60, 3) := by decide +kernel
theorem dX10_init_89 : decode cX10_init 89 = .ok (.putfield 61, 3) := by decide +kernel
theorem dX10_init_92 : decode cX10_init 92 = .ok (.aload_n 0, 1) := by decide +kernel
theorem dX10_init_93 : decode cX10_init 93 = .ok (.new 65, 3) := by decide +kernel
theorem dX10_init_96 : decode cX10_init 96 = .ok (.dup, 1) := by decide +kernel
theorem dX10_init_97 : decode cX10_init 97 = .ok (.invokespecial 67, 3) := by decide +kernel
theorem dX10_init_100 : decode cX10_init 100 = .ok (.putfield 68, 3) := by decide +kernel
theorem dX10_init_103 : decode cX10_init 103 = .ok (.aload_n 0, 1) := by decide +kernel
theorem dX10_init_104 : decode cX10_init 104 = .ok (.new 72, 3) := by decide +kernel
theorem dX10_init_107 : decode cX10_init 107 = .ok (.dup, 1) := by decide +kernel
theorem dX10_init_108 : decode cX10_init 108 = .ok (.invokespecial 74, 3) := by decide +kernel
theorem dX10_init_111 : decode cX10_init 111 = .ok (.putfield 75, 3) := by decide +kernel
theorem dX10_init_114 : decode cX10_init 114 = .ok (.aload_n 0, 1) := by decide +kernel
theorem dX10_init_115 : decode cX10_init 115 = .ok (.bipush 6, 2) := by decide +kernel
theorem dX10_init_117 : decode cX10_init 117 = .ok (.newarray .boolean, 2) := by decide +kernel
theorem dX10_init_119 : decode cX10_init 119 = .ok (.putfield 79, 3) := by decide +kernel
theorem dX10_init_122 : decode cX10_init 122 = .ok (.aload_n 0, 1) := by decide +kernel
theorem dX10_init_123 : decode cX10_init 123 = .ok (.iconst 0, 1) := by decide +kernel
theorem dX10_init_124 : decode cX10_init 124 = .ok (.putfield 83, 3) := by decide +kernel
theorem dX10_init_127 : decode cX10_init 127 = .ok (.aload_n 0, 1) := by decide +kernel
theorem dX10_init_128 : decode cX10_init 128 = .ok (.iconst 0, 1) := by decide +kernel
theorem dX10_init_129 : decode cX10_init 129 = .ok (.putfield 87, 3) := by decide +kernel
theorem dX10_init_132 : decode cX10_init 132 = .ok (.return_, 1) := by decide +kernel
theorem dX10_setTank_0 : decode cX10_setTank 0 = .ok (.iload_n 1, 1) := by decide +kernel
theorem dX10_setTank_1 : decode cX10_setTank 1 = .ok (.iconst 3, 1) := by decide +kernel
theorem dX10_setTank_2 : decode cX10_setTank 2 = .ok (.invokestatic 90, 3) := by decide +kernel
theorem dX10_setTank_5 : decode cX10_setTank 5 = .ok (.ifCond .eq 35, 3) := by decide +kernel
theorem dX10_setTank_8 : decode cX10_setTank 8 = .ok (.iload_n 2, 1) := by decide +kernel
theorem dX10_setTank_9 : decode cX10_setTank 9 = .ok (.iconst 0, 1) := by decide +kernel
theorem dX10_setTank_10 : decode cX10_setTank 10 = .ok (.ldc 94, 2) := by decide +kernel
theorem dX10_setTank_12 : decode cX10_setTank 12 = .ok (.invokestatic 95, 3) := by decide +kernel
theorem dX10_setTank_15 : decode cX10_setTank 15 = .ok (.ifCond .eq 25, 3) := by decide +kernel
theorem dX10_setTank_18 : decode cX10_setTank 18 = .ok (.iload_n 3, 1) := by decide +kernel
theorem dX10_setTank_19 : decode cX10_setTank 19 = .ok (.iconst 0, 1) := by decide +kernel
theorem dX10_setTank_20 : decode cX10_setTank 20 = .ok (.sipush 1000, 3) := by decide +kernel
theorem dX10_setTank_23 : decode cX10_setTank 23 = .ok (.invokestatic 95, 3) := by decide +kernel
theorem dX10_setTank_26 : decode cX10_setTank 26 = .ok (.ifCond .eq 14, 3) := by decide +kernel
theorem dX10_setTank_29 : decode cX10_setTank 29 = .ok (.iload 4, 2) := by decide +kernel
theorem dX10_setTank_31 : decode cX10_setTank 31 = .ok (.iconst 0, 1) := by decide +kernel
theorem dX10_setTank_32 : decode cX10_setTank 32 = .ok (.bipush 100, 2) := by decide +kernel
theorem dX10_setTank_34 : decode cX10_setTank 34 = .ok (.invokestatic 95, 3) := by decide +kernel
theorem dX10_setTank_37 : decode cX10_setTank 37 = .ok (.ifCond .ne 13, 3) := by decide +kernel
theorem dX10_setTank_40 : decode cX10_setTank 40 = .ok (.new 99, 3) := by decide +kernel
theorem dX10_setTank_43 : decode cX10_setTank 43 = .ok (.dup, 1) := by decide +kernel
theorem dX10_setTank_44 : decode cX10_setTank 44 = .ok (.ldc 101, 2) := by decide +kernel
theorem dX10_setTank_46 : decode cX10_setTank 46 = .ok (.invokespecial 103, 3) := by decide +kernel
theorem dX10_setTank_49 : decode cX10_setTank 49 = .ok (.athrow, 1) := by decide +kernel
theorem dX10_setTank_50 : decode cX10_setTank 50 = .ok (.aload_n 0, 1) := by decide +kernel
theorem dX10_setTank_51 : decode cX10_setTank 51 = .ok (.getfield 10, 3) := by decide +kernel
theorem dX10_setTank_54 : decode cX10_setTank 54 = .ok (.iload_n 1, 1) := by decide +kernel
theorem dX10_setTank_55 : decode cX10_setTank 55 = .ok (.iload_n 2, 1) := by decide +kernel
theorem dX10_setTank_56 : decode cX10_setTank 56 = .ok (.iload_n 3, 1) := by decide +kernel
theorem dX10_setTank_57 : decode cX10_setTank 57 = .ok (.iload 4, 2) := by decide +kernel
theorem dX10_setTank_59 : decode cX10_setTank 59 = .ok (.invokevirtual 106, 3) := by decide +kernel
theorem dX10_setTank_62 : decode cX10_setTank 62 = .ok (.ireturn, 1) := by decide +kernel
theorem dX10_setValve_0 : decode cX10_setValve 0 = .ok (.iload_n 1, 1) := by decide +kernel
theorem dX10_setValve_1 : decode cX10_setValve 1 = .ok (.iconst 3, 1) := by decide +kernel
theorem dX10_setValve_2 : decode cX10_setValve 2 = .ok (.invokestatic 90, 3) := by decide +kernel
theorem dX10_setValve_5 : decode cX10_setValve 5 = .ok (.ifCond .ne 13, 3) := by decide +kernel
theorem dX10_setValve_8 : decode cX10_setValve 8 = .ok (.new 99, 3) := by decide +kernel
theorem dX10_setValve_11 : decode cX10_setValve 11 = .ok (.dup, 1) := by decide +kernel
theorem dX10_setValve_12 : decode cX10_setValve 12 = .ok (.ldc 110, 2) := by decide +kernel
theorem dX10_setValve_14 : decode cX10_setValve 14 = .ok (.invokespecial 103, 3) := by decide +kernel
theorem dX10_setValve_17 : decode cX10_setValve 17 = .ok (.athrow, 1) := by decide +kernel
theorem dX10_setValve_18 : decode cX10_setValve 18 = .ok (.aload_n 0, 1) := by decide +kernel
theorem dX10_setValve_19 : decode cX10_setValve 19 = .ok (.getfield 10, 3) := by decide +kernel
theorem dX10_setValve_22 : decode cX10_setValve 22 = .ok (.getfield 112, 3) := by decide +kernel
theorem dX10_setValve_25 : decode cX10_setValve 25 = .ok (.iload_n 1, 1) := by decide +kernel
theorem dX10_setValve_26 : decode cX10_setValve 26 = .ok (.baload, 1) := by decide +kernel
theorem dX10_setValve_27 : decode cX10_setValve 27 = .ok (.istore_n 3, 1) := by decide +kernel
theorem dX10_setValve_28 : decode cX10_setValve 28 = .ok (.aload_n 0, 1) := by decide +kernel
theorem dX10_setValve_29 : decode cX10_setValve 29 = .ok (.getfield 10, 3) := by decide +kernel
theorem dX10_setValve_32 : decode cX10_setValve 32 = .ok (.getfield 112, 3) := by decide +kernel
theorem dX10_setValve_35 : decode cX10_setValve 35 = .ok (.iload_n 1, 1) := by decide +kernel
theorem dX10_setValve_36 : decode cX10_setValve 36 = .ok (.iload_n 2, 1) := by decide +kernel
theorem dX10_setValve_37 : decode cX10_setValve 37 = .ok (.bastore, 1) := by decide +kernel
theorem dX10_setValve_38 : decode cX10_setValve 38 = .ok (.iload_n 3, 1) := by decide +kernel
theorem dX10_setValve_39 : decode cX10_setValve 39 = .ok (.ireturn, 1) := by decide +kernel
theorem dX10_drain_0 : decode cX10_drain 0 = .ok (.iload_n 1, 1) := by decide +kernel
theorem dX10_drain_1 : decode cX10_drain 1 = .ok (.iconst 3, 1) := by decide +kernel
theorem dX10_drain_2 : decode cX10_drain 2 = .ok (.invokestatic 90, 3) := by decide +kernel
theorem dX10_drain_5 : decode cX10_drain 5 = .ok (.ifCond .eq 13, 3) := by decide +kernel
theorem dX10_drain_8 : decode cX10_drain 8 = .ok (.iload_n 2, 1) := by decide +kernel
theorem dX10_drain_9 : decode cX10_drain 9 = .ok (.iconst 1, 1) := by decide +kernel
theorem dX10_drain_10 : decode cX10_drain 10 = .ok (.ldc 94, 2) := by decide +kernel
theorem dX10_drain_12 : decode cX10_drain 12 = .ok (.invokestatic 95, 3) := by decide +kernel
theorem dX10_drain_15 : decode cX10_drain 15 = .ok (.ifCond .ne 13, 3) := by decide +kernel
theorem dX10_drain_18 : decode cX10_drain 18 = .ok (.new 99, 3) := by decide +kernel
theorem dX10_drain_21 : decode cX10_drain 21 = .ok (.dup, 1) := by decide +kernel
theorem dX10_drain_22 : decode cX10_drain 22 = .ok (.ldc 115, 2) := by decide +kernel
theorem dX10_drain_24 : decode cX10_drain 24 = .ok (.invokespecial 103, 3) := by decide +kernel
theorem dX10_drain_27 : decode cX10_drain 27 = .ok (.athrow, 1) := by decide +kernel
theorem dX10_drain_28 : decode cX10_drain 28 = .ok (.aload_n 0, 1) := by decide +kernel
theorem dX10_drain_29 : decode cX10_drain 29 = .ok (.getfield 10, 3) := by decide +kernel
theorem dX10_drain_32 : decode cX10_drain 32 = .ok (.iload_n 1, 1) := by decide +kernel
theorem dX10_drain_33 : decode cX10_drain 33 = .ok (.iload_n 2, 1) := by decide +kernel
theorem dX10_drain_34 : decode cX10_drain 34 = .ok (.invokevirtual 117, 3) := by decide +kernel
theorem dX10_drain_37 : decode cX10_drain 37 = .ok (.ireturn, 1) := by decide +kernel
theorem dX10_inTank_0 : decode cX10_inTank 0 = .ok (.iload_n 1, 1) := by decide +kernel
theorem dX10_inTank_1 : decode cX10_inTank 1 = .ok (.iconst 3, 1) := by decide +kernel
theorem dX10_inTank_2 : decode cX10_inTank 2 = .ok (.invokestatic 90, 3) := by decide +kernel
theorem dX10_inTank_5 : decode cX10_inTank 5 = .ok (.ifCond .ne 13, 3) := by decide +kernel
theorem dX10_inTank_8 : decode cX10_inTank 8 = .ok (.new 99, 3) := by decide +kernel
theorem dX10_inTank_11 : decode cX10_inTank 11 = .ok (.dup, 1) := by decide +kernel
theorem dX10_inTank_12 : decode cX10_inTank 12 = .ok (.ldc 110, 2) := by decide +kernel
theorem dX10_inTank_14 : decode cX10_inTank 14 = .ok (.invokespecial 103, 3) := by decide +kernel
theorem dX10_inTank_17 : decode cX10_inTank 17 = .ok (.athrow, 1) := by decide +kernel
theorem dX10_inTank_18 : decode cX10_inTank 18 = .ok (.aload_n 0, 1) := by decide +kernel
theorem dX10_inTank_19 : decode cX10_inTank 19 = .ok (.getfield 10, 3) := by decide +kernel
theorem dX10_inTank_22 : decode cX10_inTank 22 = .ok (.getfield 121, 3) := by decide +kernel
theorem dX10_inTank_25 : decode cX10_inTank 25 = .ok (.iload_n 1, 1) := by decide +kernel
theorem dX10_inTank_26 : decode cX10_inTank 26 = .ok (.iaload, 1) := by decide +kernel
theorem dX10_inTank_27 : decode cX10_inTank 27 = .ok (.ireturn, 1) := by decide +kernel
theorem dX10_addStep_0 : decode cX10_addStep 0 = .ok (.iload_n 1, 1) := by decide +kernel
theorem dX10_addStep_1 : decode cX10_addStep 1 = .ok (.sipush (-600), 3) := by decide +kernel
theorem dX10_addStep_4 : decode cX10_addStep 4 = .ok (.iconst (-1), 1) := by decide +kernel
theorem dX10_addStep_5 : decode cX10_addStep 5 = .ok (.invokestatic 95, 3) := by decide +kernel
theorem dX10_addStep_8 : decode cX10_addStep 8 = .ok (.ifCond .eq 14, 3) := by decide +kernel
theorem dX10_addStep_11 : decode cX10_addStep 11 = .ok (.iload_n 2, 1) := by decide +kernel
theorem dX10_addStep_12 : decode cX10_addStep 12 = .ok (.iconst 1, 1) := by decide +kernel
theorem dX10_addStep_13 : decode cX10_addStep 13 = .ok (.sipush 300, 3) := by decide +kernel
theorem dX10_addStep_16 : decode cX10_addStep 16 = .ok (.invokestatic 95, 3) := by decide +kernel
theorem dX10_addStep_19 : decode cX10_addStep 19 = .ok (.ifCond .ne 13, 3) := by decide +kernel
theorem dX10_addStep_22 : decode cX10_addStep 22 = .ok (.new 99, 3) := by decide +kernel
theorem dX10_addStep_25 : decode cX10_addStep 25 = .ok (.dup, 1) := by decide +kernel
theorem dX10_addStep_26 : decode cX10_addStep 26 = .ok (.ldc 125, 2) := by decide +kernel
theorem dX10_addStep_28 : decode cX10_addStep 28 = .ok (.invokespecial 103, 3) := by decide +kernel
theorem dX10_addStep_31 : decode cX10_addStep 31 = .ok (.athrow, 1) := by decide +kernel
theorem dX10_addStep_32 : decode cX10_addStep 32 = .ok (.aload_n 0, 1) := by decide +kernel
theorem dX10_addStep_33 : decode cX10_addStep 33 = .ok (.getfield 19, 3) := by decide +kernel
theorem dX10_addStep_36 : decode cX10_addStep 36 = .ok (.getfield 127, 3) := by decide +kernel
theorem dX10_addStep_39 : decode cX10_addStep 39 = .ok (.bipush 16, 2) := by decide +kernel
theorem dX10_addStep_41 : decode cX10_addStep 41 = .ok (.if_icmp .ge 10, 3) := by decide +kernel
theorem dX10_addStep_44 : decode cX10_addStep 44 = .ok (.aload_n 0, 1) := by decide +kernel
theorem dX10_addStep_45 : decode cX10_addStep 45 = .ok (.invokevirtual 130, 3) := by decide +kernel
theorem dX10_addStep_48 : decode cX10_addStep 48 = .ok (.ifCond .eq 13, 3) := by decide +kernel
theorem dX10_addStep_51 : decode cX10_addStep 51 = .ok (.new 134, 3) := by decide +kernel
theorem dX10_addStep_54 : decode cX10_addStep 54 = .ok (.dup, 1) := by decide +kernel
theorem dX10_addStep_55 : decode cX10_addStep 55 = .ok (.ldc 136, 2) := by decide +kernel
theorem dX10_addStep_57 : decode cX10_addStep 57 = .ok (.invokespecial 138, 3) := by decide +kernel
theorem dX10_addStep_60 : decode cX10_addStep 60 = .ok (.athrow, 1) := by decide +kernel
theorem dX10_addStep_61 : decode cX10_addStep 61 = .ok (.aload_n 0, 1) := by decide +kernel
theorem dX10_addStep_62 : decode cX10_addStep 62 = .ok (.getfield 19, 3) := by decide +kernel
theorem dX10_addStep_65 : decode cX10_addStep 65 = .ok (.iload_n 1, 1) := by decide +kernel
theorem dX10_addStep_66 : decode cX10_addStep 66 = .ok (.iload_n 2, 1) := by decide +kernel
theorem dX10_addStep_67 : decode cX10_addStep 67 = .ok (.invokevirtual 139, 3) := by decide +kernel
theorem dX10_addStep_70 : decode cX10_addStep 70 = .ok (.ireturn, 1) := by decide +kernel
theorem dX10_setAfter_0 : decode cX10_setAfter 0 = .ok (.iload_n 1, 1) := by decide +kernel
theorem dX10_setAfter_1 : decode cX10_setAfter 1 = .ok (.aload_n 0, 1) := by decide +kernel
theorem dX10_setAfter_2 : decode cX10_setAfter 2 = .ok (.getfield 19, 3) := by decide +kernel
theorem dX10_setAfter_5 : decode cX10_setAfter 5 = .ok (.getfield 127, 3) := by decide +kernel
theorem dX10_setAfter_8 : decode cX10_setAfter 8 = .ok (.invokestatic 90, 3) := by decide +kernel
theorem dX10_setAfter_11 : decode cX10_setAfter 11 = .ok (.ifCond .eq 17, 3) := by decide +kernel
theorem dX10_setAfter_14 : decode cX10_setAfter 14 = .ok (.iload_n 2, 1) := by decide +kernel
theorem dX10_setAfter_15 : decode cX10_setAfter 15 = .ok (.aload_n 0, 1) := by decide +kernel
theorem dX10_setAfter_16 : decode cX10_setAfter 16 = .ok (.getfield 19, 3) := by decide +kernel
theorem dX10_setAfter_19 : decode cX10_setAfter 19 = .ok (.getfield 127, 3) := by decide +kernel
theorem dX10_setAfter_22 : decode cX10_setAfter 22 = .ok (.invokestatic 90, 3) := by decide +kernel
theorem dX10_setAfter_25 : decode cX10_setAfter 25 = .ok (.ifCond .ne 13, 3) := by decide +kernel
theorem dX10_setAfter_28 : decode cX10_setAfter 28 = .ok (.new 142, 3) := by decide +kernel
theorem dX10_setAfter_31 : decode cX10_setAfter 31 = .ok (.dup, 1) := by decide +kernel
theorem dX10_setAfter_32 : decode cX10_setAfter 32 = .ok (.ldc 144, 2) := by decide +kernel
theorem dX10_setAfter_34 : decode cX10_setAfter 34 = .ok (.invokespecial 146, 3) := by decide +kernel
theorem dX10_setAfter_37 : decode cX10_setAfter 37 = .ok (.athrow, 1) := by decide +kernel
theorem dX10_setAfter_38 : decode cX10_setAfter 38 = .ok (.iload_n 2, 1) := by decide +kernel
theorem dX10_setAfter_39 : decode cX10_setAfter 39 = .ok (.iload_n 1, 1) := by decide +kernel
theorem dX10_setAfter_40 : decode cX10_setAfter 40 = .ok (.if_icmp .lt 13, 3) := by decide +kernel
theorem dX10_setAfter_43 : decode cX10_setAfter 43 = .ok (.new 99, 3) := by decide +kernel
theorem dX10_setAfter_46 : decode cX10_setAfter 46 = .ok (.dup, 1) := by decide +kernel
theorem dX10_setAfter_47 : decode cX10_setAfter 47 = .ok (.ldc 147, 2) := by decide +kernel
theorem dX10_setAfter_49 : decode cX10_setAfter 49 = .ok (.invokespecial 103, 3) := by decide +kernel
theorem dX10_setAfter_52 : decode cX10_setAfter 52 = .ok (.athrow, 1) := by decide +kernel
theorem dX10_setAfter_53 : decode cX10_setAfter 53 = .ok (.aload_n 0, 1) := by decide +kernel
theorem dX10_setAfter_54 : decode cX10_setAfter 54 = .ok (.invokevirtual 130, 3) := by decide +kernel
theorem dX10_setAfter_57 : decode cX10_setAfter 57 = .ok (.ifCond .eq 13, 3) := by decide +kernel
theorem dX10_setAfter_60 : decode cX10_setAfter 60 = .ok (.new 134, 3) := by decide +kernel
theorem dX10_setAfter_63 : decode cX10_setAfter 63 = .ok (.dup, 1) := by decide +kernel
theorem dX10_setAfter_64 : decode cX10_setAfter 64 = .ok (.ldc 149, 2) := by decide +kernel
theorem dX10_setAfter_66 : decode cX10_setAfter 66 = .ok (.invokespecial 138, 3) := by decide +kernel
theorem dX10_setAfter_69 : decode cX10_setAfter 69 = .ok (.athrow, 1) := by decide +kernel
theorem dX10_setAfter_70 : decode cX10_setAfter 70 = .ok (.aload_n 0, 1) := by decide +kernel
theorem dX10_setAfter_71 : decode cX10_setAfter 71 = .ok (.getfield 19, 3) := by decide +kernel
theorem dX10_setAfter_74 : decode cX10_setAfter 74 = .ok (.iload_n 1, 1) := by decide +kernel
theorem dX10_setAfter_75 : decode cX10_setAfter 75 = .ok (.iload_n 2, 1) := by decide +kernel
theorem dX10_setAfter_76 : decode cX10_setAfter 76 = .ok (.invokevirtual 151, 3) := by decide +kernel
theorem dX10_setAfter_79 : decode cX10_setAfter 79 = .ok (.ireturn, 1) := by decide +kernel
theorem dX10_stepState_0 : decode cX10_stepState 0 = .ok (.iload_n 1, 1) := by decide +kernel
theorem dX10_stepState_1 : decode cX10_stepState 1 = .ok (.aload_n 0, 1) := by decide +kernel
theorem dX10_stepState_2 : decode cX10_stepState 2 = .ok (.getfield 19, 3) := by decide +kernel
theorem dX10_stepState_5 : decode cX10_stepState 5 = .ok (.getfield 127, 3) := by decide +kernel
theorem dX10_stepState_8 : decode cX10_stepState 8 = .ok (.invokestatic 90, 3) := by decide +kernel
theorem dX10_stepState_11 : decode cX10_stepState 11 = .ok (.ifCond .ne 13, 3) := by decide +kernel
theorem dX10_stepState_14 : decode cX10_stepState 14 = .ok (.new 142, 3) := by decide +kernel
theorem dX10_stepState_17 : decode cX10_stepState 17 = .ok (.dup, 1) := by decide +kernel
theorem dX10_stepState_18 : decode cX10_stepState 18 = .ok (.ldc 144, 2) := by decide +kernel
theorem dX10_stepState_20 : decode cX10_stepState 20 = .ok (.invokespecial 146, 3) := by decide +kernel
theorem dX10_stepState_23 : decode cX10_stepState 23 = .ok (.athrow, 1) := by decide +kernel
theorem dX10_stepState_24 : decode cX10_stepState 24 = .ok (.aload_n 0, 1) := by decide +kernel
theorem dX10_stepState_25 : decode cX10_stepState 25 = .ok (.getfield 19, 3) := by decide +kernel
theorem dX10_stepState_28 : decode cX10_stepState 28 = .ok (.getfield 154, 3) := by decide +kernel
theorem dX10_stepState_31 : decode cX10_stepState 31 = .ok (.iload_n 1, 1) := by decide +kernel
theorem dX10_stepState_32 : decode cX10_stepState 32 = .ok (.caload, 1) := by decide +kernel
theorem dX10_stepState_33 : decode cX10_stepState 33 = .ok (.ireturn, 1) := by decide +kernel
theorem dX10_addMark_0 : decode cX10_addMark 0 = .ok (.iload_n 1, 1) := by decide +kernel
theorem dX10_addMark_1 : decode cX10_addMark 1 = .ok (.sipush (-600), 3) := by decide +kernel
theorem dX10_addMark_4 : decode cX10_addMark 4 = .ok (.iconst (-1), 1) := by decide +kernel
theorem dX10_addMark_5 : decode cX10_addMark 5 = .ok (.invokestatic 95, 3) := by decide +kernel
theorem dX10_addMark_8 : decode cX10_addMark 8 = .ok (.ifCond .eq 26, 3) := by decide +kernel
theorem dX10_addMark_11 : decode cX10_addMark 11 = .ok (.iload_n 2, 1) := by decide +kernel
theorem dX10_addMark_12 : decode cX10_addMark 12 = .ok (.iconst 0, 1) := by decide +kernel
theorem dX10_addMark_13 : decode cX10_addMark 13 = .ok (.sipush 300, 3) := by decide +kernel
theorem dX10_addMark_16 : decode cX10_addMark 16 = .ok (.invokestatic 95, 3) := by decide +kernel
theorem dX10_addMark_19 : decode cX10_addMark 19 = .ok (.ifCond .eq 15, 3) := by decide +kernel
theorem dX10_addMark_22 : decode cX10_addMark 22 = .ok (.aload_n 0, 1) := by decide +kernel
theorem dX10_addMark_23 : decode cX10_addMark 23 = .ok (.getfield 26, 3) := by decide +kernel
theorem dX10_addMark_26 : decode cX10_addMark 26 = .ok (.iload_n 1, 1) := by decide +kernel
theorem dX10_addMark_27 : decode cX10_addMark 27 = .ok (.invokevirtual 158, 3) := by decide +kernel
theorem dX10_addMark_30 : decode cX10_addMark 30 = .ok (.iconst (-1), 1) := by decide +kernel
theorem dX10_addMark_31 : decode cX10_addMark 31 = .ok (.if_icmp .eq 13, 3) := by decide +kernel
theorem dX10_addMark_34 : decode cX10_addMark 34 = .ok (.new 99, 3) := by decide +kernel
theorem dX10_addMark_37 : decode cX10_addMark 37 = .ok (.dup, 1) := by decide +kernel
theorem dX10_addMark_38 : decode cX10_addMark 38 = .ok (.ldc 162, 2) := by decide +kernel
theorem dX10_addMark_40 : decode cX10_addMark 40 = .ok (.invokespecial 103, 3) := by decide +kernel
theorem dX10_addMark_43 : decode cX10_addMark 43 = .ok (.athrow, 1) := by decide +kernel
theorem dX10_addMark_44 : decode cX10_addMark 44 = .ok (.aload_n 0, 1) := by decide +kernel
theorem dX10_addMark_45 : decode cX10_addMark 45 = .ok (.getfield 19, 3) := by decide +kernel
theorem dX10_addMark_48 : decode cX10_addMark 48 = .ok (.iload_n 3, 1) := by decide +kernel
theorem dX10_addMark_49 : decode cX10_addMark 49 = .ok (.invokevirtual 164, 3) := by decide +kernel
theorem dX10_addMark_52 : decode cX10_addMark 52 = .ok (.ifCond .ne 13, 3) := by decide +kernel
theorem dX10_addMark_55 : decode cX10_addMark 55 = .ok (.new 168, 3) := by decide +kernel
theorem dX10_addMark_58 : decode cX10_addMark 58 = .ok (.dup, 1) := by decide +kernel
theorem dX10_addMark_59 : decode cX10_addMark 59 = .ok (.ldc 144, 2) := by decide +kernel
theorem dX10_addMark_61 : decode cX10_addMark 61 = .ok (.invokespecial 170, 3) := by decide +kernel
theorem dX10_addMark_64 : decode cX10_addMark 64 = .ok (.athrow, 1) := by decide +kernel
theorem dX10_addMark_65 : decode cX10_addMark 65 = .ok (.aload_n 0, 1) := by decide +kernel
theorem dX10_addMark_66 : decode cX10_addMark 66 = .ok (.getfield 26, 3) := by decide +kernel
theorem dX10_addMark_69 : decode cX10_addMark 69 = .ok (.getfield 171, 3) := by decide +kernel
theorem dX10_addMark_72 : decode cX10_addMark 72 = .ok (.bipush 6, 2) := by decide +kernel
theorem dX10_addMark_74 : decode cX10_addMark 74 = .ok (.if_icmp .ge 10, 3) := by decide +kernel
theorem dX10_addMark_77 : decode cX10_addMark 77 = .ok (.aload_n 0, 1) := by decide +kernel
theorem dX10_addMark_78 : decode cX10_addMark 78 = .ok (.invokevirtual 130, 3) := by decide +kernel
theorem dX10_addMark_81 : decode cX10_addMark 81 = .ok (.ifCond .eq 13, 3) := by decide +kernel
theorem dX10_addMark_84 : decode cX10_addMark 84 = .ok (.new 134, 3) := by decide +kernel
theorem dX10_addMark_87 : decode cX10_addMark 87 = .ok (.dup, 1) := by decide +kernel
theorem dX10_addMark_88 : decode cX10_addMark 88 = .ok (.ldc 172, 2) := by decide +kernel
theorem dX10_addMark_90 : decode cX10_addMark 90 = .ok (.invokespecial 138, 3) := by decide +kernel
theorem dX10_addMark_93 : decode cX10_addMark 93 = .ok (.athrow, 1) := by decide +kernel
theorem dX10_addMark_94 : decode cX10_addMark 94 = .ok (.aload_n 0, 1) := by decide +kernel
theorem dX10_addMark_95 : decode cX10_addMark 95 = .ok (.getfield 26, 3) := by decide +kernel
theorem dX10_addMark_98 : decode cX10_addMark 98 = .ok (.iload_n 1, 1) := by decide +kernel
theorem dX10_addMark_99 : decode cX10_addMark 99 = .ok (.iload_n 2, 1) := by decide +kernel
theorem dX10_addMark_100 : decode cX10_addMark 100 = .ok (.iload_n 3, 1) := by decide +kernel
theorem dX10_addMark_101 : decode cX10_addMark 101 = .ok (.invokevirtual 174, 3) := by decide +kernel
theorem dX10_addMark_104 : decode cX10_addMark 104 = .ok (.aload_n 0, 1) := by decide +kernel
theorem dX10_addMark_105 : decode cX10_addMark 105 = .ok (.getfield 26, 3) := by decide +kernel
theorem dX10_addMark_108 : decode cX10_addMark 108 = .ok (.getfield 171, 3) := by decide +kernel
theorem dX10_addMark_111 : decode cX10_addMark 111 = .ok (.ireturn, 1) := by decide +kernel
theorem dX10_sense_0 : decode cX10_sense 0 = .ok (.iload_n 1, 1) := by decide +kernel
theorem dX10_sense_1 : decode cX10_sense 1 = .ok (.bipush 9, 2) := by decide +kernel
theorem dX10_sense_3 : decode cX10_sense 3 = .ok (.invokestatic 90, 3) := by decide +kernel
theorem dX10_sense_6 : decode cX10_sense 6 = .ok (.ifCond .eq 16, 3) := by decide +kernel
theorem dX10_sense_9 : decode cX10_sense 9 = .ok (.iload_n 2, 1) := by decide +kernel
theorem dX10_sense_10 : decode cX10_sense 10 = .ok (.sipush (-9999), 3) := by decide +kernel
theorem dX10_sense_13 : decode cX10_sense 13 = .ok (.sipush 9999, 3) := by decide +kernel
theorem dX10_sense_16 : decode cX10_sense 16 = .ok (.invokestatic 95, 3) := by decide +kernel
theorem dX10_sense_19 : decode cX10_sense 19 = .ok (.ifCond .ne 13, 3) := by decide +kernel
theorem dX10_sense_22 : decode cX10_sense 22 = .ok (.new 99, 3) := by decide +kernel
theorem dX10_sense_25 : decode cX10_sense 25 = .ok (.dup, 1) := by decide +kernel
theorem dX10_sense_26 : decode cX10_sense 26 = .ok (.ldc 125, 2) := by decide +kernel
theorem dX10_sense_28 : decode cX10_sense 28 = .ok (.invokespecial 103, 3) := by decide +kernel
theorem dX10_sense_31 : decode cX10_sense 31 = .ok (.athrow, 1) := by decide +kernel
theorem dX10_sense_32 : decode cX10_sense 32 = .ok (.aload_n 0, 1) := by decide +kernel
theorem dX10_sense_33 : decode cX10_sense 33 = .ok (.getfield 33, 3) := by decide +kernel
theorem dX10_sense_36 : decode cX10_sense 36 = .ok (.getfield 178, 3) := by decide +kernel
theorem dX10_sense_39 : decode cX10_sense 39 = .ok (.iload_n 1, 1) := by decide +kernel
theorem dX10_sense_40 : decode cX10_sense 40 = .ok (.iload_n 2, 1) := by decide +kernel
theorem dX10_sense_41 : decode cX10_sense 41 = .ok (.iastore, 1) := by decide +kernel
theorem dX10_sense_42 : decode cX10_sense 42 = .ok (.aload_n 0, 1) := by decide +kernel
theorem dX10_sense_43 : decode cX10_sense 43 = .ok (.getfield 33, 3) := by decide +kernel
theorem dX10_sense_46 : decode cX10_sense 46 = .ok (.iload_n 1, 1) := by decide +kernel
theorem dX10_sense_47 : decode cX10_sense 47 = .ok (.iconst 3, 1) := by decide +kernel
theorem dX10_sense_48 : decode cX10_sense 48 = .ok (.idiv, 1) := by decide +kernel
theorem dX10_sense_49 : decode cX10_sense 49 = .ok (.invokevirtual 181, 3) := by decide +kernel
theorem dX10_sense_52 : decode cX10_sense 52 = .ok (.ireturn, 1) := by decide +kernel
theorem dX10_inhibit_0 : decode cX10_inhibit 0 = .ok (.iload_n 1, 1) := by decide +kernel
theorem dX10_inhibit_1 : decode cX10_inhibit 1 = .ok (.bipush 9, 2) := by decide +kernel
theorem dX10_inhibit_3 : decode cX10_inhibit 3 = .ok (.invokestatic 90, 3) := by decide +kernel
theorem dX10_inhibit_6 : decode cX10_inhibit 6 = .ok (.ifCond .ne 13, 3) := by decide +kernel
theorem dX10_inhibit_9 : decode cX10_inhibit 9 = .ok (.new 99, 3) := by decide +kernel
theorem dX10_inhibit_12 : decode cX10_inhibit 12 = .ok (.dup, 1) := by decide +kernel
theorem dX10_inhibit_13 : decode cX10_inhibit 13 = .ok (.ldc 184, 2) := by decide +kernel
theorem dX10_inhibit_15 : decode cX10_inhibit 15 = .ok (.invokespecial 103, 3) := by decide +kernel
theorem dX10_inhibit_18 : decode cX10_inhibit 18 = .ok (.athrow, 1) := by decide +kernel
theorem dX10_inhibit_19 : decode cX10_inhibit 19 = .ok (.iload_n 2, 1) := by decide +kernel
theorem dX10_inhibit_20 : decode cX10_inhibit 20 = .ok (.ifCond .eq 24, 3) := by decide +kernel
theorem dX10_inhibit_23 : decode cX10_inhibit 23 = .ok (.aload_n 0, 1) := by decide +kernel
theorem dX10_inhibit_24 : decode cX10_inhibit 24 = .ok (.getfield 33, 3) := by decide +kernel
theorem dX10_inhibit_27 : decode cX10_inhibit 27 = .ok (.iload_n 1, 1) := by decide +kernel
theorem dX10_inhibit_28 : decode cX10_inhibit 28 = .ok (.invokevirtual 186, 3) := by decide +kernel
theorem dX10_inhibit_31 : decode cX10_inhibit 31 = .ok (.ifCond .eq 13, 3) := by decide +kernel
theorem dX10_inhibit_34 : decode cX10_inhibit 34 = .ok (.new 168, 3) := by decide +kernel
theorem dX10_inhibit_37 : decode cX10_inhibit 37 = .ok (.dup, 1) := by decide +kernel
theorem dX10_inhibit_38 : decode cX10_inhibit 38 = .ok (.ldc 189, 2) := by decide +kernel
theorem dX10_inhibit_40 : decode cX10_inhibit 40 = .ok (.invokespecial 170, 3) := by decide +kernel
theorem dX10_inhibit_43 : decode cX10_inhibit 43 = .ok (.athrow, 1) := by decide +kernel
theorem dX10_inhibit_44 : decode cX10_inhibit 44 = .ok (.aload_n 0, 1) := by decide +kernel
theorem dX10_inhibit_45 : decode cX10_inhibit 45 = .ok (.getfield 33, 3) := by decide +kernel
theorem dX10_inhibit_48 : decode cX10_inhibit 48 = .ok (.getfield 191, 3) := by decide +kernel
theorem dX10_inhibit_51 : decode cX10_inhibit 51 = .ok (.iload_n 1, 1) := by decide +kernel
theorem dX10_inhibit_52 : decode cX10_inhibit 52 = .ok (.iload_n 2, 1) := by decide +kernel
theorem dX10_inhibit_53 : decode cX10_inhibit 53 = .ok (.bastore, 1) := by decide +kernel
theorem dX10_inhibit_54 : decode cX10_inhibit 54 = .ok (.aload_n 0, 1) := by decide +kernel
theorem dX10_inhibit_55 : decode cX10_inhibit 55 = .ok (.getfield 33, 3) := by decide +kernel
theorem dX10_inhibit_58 : decode cX10_inhibit 58 = .ok (.iload_n 1, 1) := by decide +kernel
theorem dX10_inhibit_59 : decode cX10_inhibit 59 = .ok (.iconst 3, 1) := by decide +kernel
theorem dX10_inhibit_60 : decode cX10_inhibit 60 = .ok (.idiv, 1) := by decide +kernel
theorem dX10_inhibit_61 : decode cX10_inhibit 61 = .ok (.invokevirtual 194, 3) := by decide +kernel
theorem dX10_inhibit_64 : decode cX10_inhibit 64 = .ok (.ireturn, 1) := by decide +kernel
theorem dX10_setWind_0 : decode cX10_setWind 0 = .ok (.iload_n 1, 1) := by decide +kernel
theorem dX10_setWind_1 : decode cX10_setWind 1 = .ok (.iconst 0, 1) := by decide +kernel
theorem dX10_setWind_2 : decode cX10_setWind 2 = .ok (.sipush 200, 3) := by decide +kernel
theorem dX10_setWind_5 : decode cX10_setWind 5 = .ok (.invokestatic 95, 3) := by decide +kernel
theorem dX10_setWind_8 : decode cX10_setWind 8 = .ok (.ifCond .ne 13, 3) := by decide +kernel
theorem dX10_setWind_11 : decode cX10_setWind 11 = .ok (.new 99, 3) := by decide +kernel
theorem dX10_setWind_14 : decode cX10_setWind 14 = .ok (.dup, 1) := by decide +kernel
theorem dX10_setWind_15 : decode cX10_setWind 15 = .ok (.ldc 197, 2) := by decide +kernel
theorem dX10_setWind_17 : decode cX10_setWind 17 = .ok (.invokespecial 103, 3) := by decide +kernel
theorem dX10_setWind_20 : decode cX10_setWind 20 = .ok (.athrow, 1) := by decide +kernel
theorem dX10_setWind_21 : decode cX10_setWind 21 = .ok (.aload_n 0, 1) := by decide +kernel
theorem dX10_setWind_22 : decode cX10_setWind 22 = .ok (.getfield 83, 3) := by decide +kernel
theorem dX10_setWind_25 : decode cX10_setWind 25 = .ok (.istore_n 2, 1) := by decide +kernel
theorem dX10_setWind_26 : decode cX10_setWind 26 = .ok (.aload_n 0, 1) := by decide +kernel
theorem dX10_setWind_27 : decode cX10_setWind 27 = .ok (.iload_n 1, 1) := by decide +kernel
theorem dX10_setWind_28 : decode cX10_setWind 28 = .ok (.putfield 83, 3) := by decide +kernel
theorem dX10_setWind_31 : decode cX10_setWind 31 = .ok (.iload_n 2, 1) := by decide +kernel
theorem dX10_setWind_32 : decode cX10_setWind 32 = .ok (.ireturn, 1) := by decide +kernel
theorem dX10_strike_0 : decode cX10_strike 0 = .ok (.iload_n 1, 1) := by decide +kernel
theorem dX10_strike_1 : decode cX10_strike 1 = .ok (.iconst 0, 1) := by decide +kernel
theorem dX10_strike_2 : decode cX10_strike 2 = .ok (.bipush 99, 2) := by decide +kernel
theorem dX10_strike_4 : decode cX10_strike 4 = .ok (.invokestatic 95, 3) := by decide +kernel
theorem dX10_strike_7 : decode cX10_strike 7 = .ok (.ifCond .ne 13, 3) := by decide +kernel
theorem dX10_strike_10 : decode cX10_strike 10 = .ok (.new 99, 3) := by decide +kernel
theorem dX10_strike_13 : decode cX10_strike 13 = .ok (.dup, 1) := by decide +kernel
theorem dX10_strike_14 : decode cX10_strike 14 = .ok (.ldc 199, 2) := by decide +kernel
theorem dX10_strike_16 : decode cX10_strike 16 = .ok (.invokespecial 103, 3) := by decide +kernel
theorem dX10_strike_19 : decode cX10_strike 19 = .ok (.athrow, 1) := by decide +kernel
theorem dX10_strike_20 : decode cX10_strike 20 = .ok (.iload_n 1, 1) := by decide +kernel
theorem dX10_strike_21 : decode cX10_strike 21 = .ok (.bipush 20, 2) := by decide +kernel
theorem dX10_strike_23 : decode cX10_strike 23 = .ok (.if_icmp .gt 14, 3) := by decide +kernel
theorem dX10_strike_26 : decode cX10_strike 26 = .ok (.aload_n 0, 1) := by decide +kernel
theorem dX10_strike_27 : decode cX10_strike 27 = .ok (.getfield 40, 3) := by decide +kernel
theorem dX10_strike_30 : decode cX10_strike 30 = .ok (.aload_n 0, 1) := by decide +kernel
theorem dX10_strike_31 : decode cX10_strike 31 = .ok (.getfield 87, 3) := by decide +kernel
theorem dX10_strike_34 : decode cX10_strike 34 = .ok (.invokevirtual 201, 3) := by decide +kernel
theorem dX10_strike_37 : decode cX10_strike 37 = .ok (.aload_n 0, 1) := by decide +kernel
theorem dX10_strike_38 : decode cX10_strike 38 = .ok (.getfield 40, 3) := by decide +kernel
theorem dX10_strike_41 : decode cX10_strike 41 = .ok (.getfield 205, 3) := by decide +kernel
theorem dX10_strike_44 : decode cX10_strike 44 = .ok (.ireturn, 1) := by decide +kernel
theorem dX10_boat_0 : decode cX10_boat 0 = .ok (.iload_n 1, 1) := by decide +kernel
theorem dX10_boat_1 : decode cX10_boat 1 = .ok (.bipush 8, 2) := by decide +kernel
theorem dX10_boat_3 : decode cX10_boat 3 = .ok (.invokestatic 90, 3) := by decide +kernel
theorem dX10_boat_6 : decode cX10_boat 6 = .ok (.ifCond .eq 23, 3) := by decide +kernel
theorem dX10_boat_9 : decode cX10_boat 9 = .ok (.iload_n 2, 1) := by decide +kernel
theorem dX10_boat_10 : decode cX10_boat 10 = .ok (.iconst 0, 1) := by decide +kernel
theorem dX10_boat_11 : decode cX10_boat 11 = .ok (.bipush 50, 2) := by decide +kernel
theorem dX10_boat_13 : decode cX10_boat 13 = .ok (.invokestatic 95, 3) := by decide +kernel
theorem dX10_boat_16 : decode cX10_boat 16 = .ok (.ifCond .eq 13, 3) := by decide +kernel
theorem dX10_boat_19 : decode cX10_boat 19 = .ok (.iload_n 3, 1) := by decide +kernel
theorem dX10_boat_20 : decode cX10_boat 20 = .ok (.iconst 0, 1) := by decide +kernel
theorem dX10_boat_21 : decode cX10_boat 21 = .ok (.bipush 99, 2) := by decide +kernel
theorem dX10_boat_23 : decode cX10_boat 23 = .ok (.invokestatic 95, 3) := by decide +kernel
theorem dX10_boat_26 : decode cX10_boat 26 = .ok (.ifCond .ne 13, 3) := by decide +kernel
theorem dX10_boat_29 : decode cX10_boat 29 = .ok (.new 99, 3) := by decide +kernel
theorem dX10_boat_32 : decode cX10_boat 32 = .ok (.dup, 1) := by decide +kernel
theorem dX10_boat_33 : decode cX10_boat 33 = .ok (.ldc 125, 2) := by decide +kernel
theorem dX10_boat_35 : decode cX10_boat 35 = .ok (.invokespecial 103, 3) := by decide +kernel
theorem dX10_boat_38 : decode cX10_boat 38 = .ok (.athrow, 1) := by decide +kernel
theorem dX10_boat_39 : decode cX10_boat 39 = .ok (.aload_n 0, 1) := by decide +kernel
theorem dX10_boat_40 : decode cX10_boat 40 = .ok (.getfield 47, 3) := by decide +kernel
theorem dX10_boat_43 : decode cX10_boat 43 = .ok (.iload_n 1, 1) := by decide +kernel
theorem dX10_boat_44 : decode cX10_boat 44 = .ok (.iload_n 2, 1) := by decide +kernel
theorem dX10_boat_45 : decode cX10_boat 45 = .ok (.iload_n 3, 1) := by decide +kernel
theorem dX10_boat_46 : decode cX10_boat 46 = .ok (.invokevirtual 208, 3) := by decide +kernel
theorem dX10_boat_49 : decode cX10_boat 49 = .ok (.aload_n 0, 1) := by decide +kernel
theorem dX10_boat_50 : decode cX10_boat 50 = .ok (.getfield 47, 3) := by decide +kernel
theorem dX10_boat_53 : decode cX10_boat 53 = .ok (.invokevirtual 210, 3) := by decide +kernel
theorem dX10_boat_56 : decode cX10_boat 56 = .ok (.ireturn, 1) := by decide +kernel
theorem dX10_addRule_0 : decode cX10_addRule 0 = .ok (.iload_n 1, 1) := by decide +kernel
theorem dX10_addRule_1 : decode cX10_addRule 1 = .ok (.iload_n 2, 1) := by decide +kernel
theorem dX10_addRule_2 : decode cX10_addRule 2 = .ok (.invokestatic 214, 3) := by decide +kernel
theorem dX10_addRule_5 : decode cX10_addRule 5 = .ok (.ifCond .eq 21, 3) := by decide +kernel
theorem dX10_addRule_8 : decode cX10_addRule 8 = .ok (.iload_n 3, 1) := by decide +kernel
theorem dX10_addRule_9 : decode cX10_addRule 9 = .ok (.iload 4, 2) := by decide +kernel
theorem dX10_addRule_11 : decode cX10_addRule 11 = .ok (.if_icmp .gt 15, 3) := by decide +kernel
theorem dX10_addRule_14 : decode cX10_addRule 14 = .ok (.iload 5, 2) := by decide +kernel
theorem dX10_addRule_16 : decode cX10_addRule 16 = .ok (.iconst 0, 1) := by decide +kernel
theorem dX10_addRule_17 : decode cX10_addRule 17 = .ok (.sipush 300, 3) := by decide +kernel
theorem dX10_addRule_20 : decode cX10_addRule 20 = .ok (.invokestatic 95, 3) := by decide +kernel
theorem dX10_addRule_23 : decode cX10_addRule 23 = .ok (.ifCond .ne 13, 3) := by decide +kernel
theorem dX10_addRule_26 : decode cX10_addRule 26 = .ok (.new 99, 3) := by decide +kernel
theorem dX10_addRule_29 : decode cX10_addRule 29 = .ok (.dup, 1) := by decide +kernel
theorem dX10_addRule_30 : decode cX10_addRule 30 = .ok (.ldc 218, 2) := by decide +kernel
theorem dX10_addRule_32 : decode cX10_addRule 32 = .ok (.invokespecial 103, 3) := by decide +kernel
theorem dX10_addRule_35 : decode cX10_addRule 35 = .ok (.athrow, 1) := by decide +kernel
theorem dX10_addRule_36 : decode cX10_addRule 36 = .ok (.aload_n 0, 1) := by decide +kernel
theorem dX10_addRule_37 : decode cX10_addRule 37 = .ok (.getfield 54, 3) := by decide +kernel
theorem dX10_addRule_40 : decode cX10_addRule 40 = .ok (.getfield 220, 3) := by decide +kernel
theorem dX10_addRule_43 : decode cX10_addRule 43 = .ok (.bipush 12, 2) := by decide +kernel
theorem dX10_addRule_45 : decode cX10_addRule 45 = .ok (.if_icmp .lt 13, 3) := by decide +kernel
theorem dX10_addRule_48 : decode cX10_addRule 48 = .ok (.new 134, 3) := by decide +kernel
theorem dX10_addRule_51 : decode cX10_addRule 51 = .ok (.dup, 1) := by decide +kernel
theorem dX10_addRule_52 : decode cX10_addRule 52 = .ok (.ldc 221, 2) := by decide +kernel
theorem dX10_addRule_54 : decode cX10_addRule 54 = .ok (.invokespecial 138, 3) := by decide +kernel
theorem dX10_addRule_57 : decode cX10_addRule 57 = .ok (.athrow, 1) := by decide +kernel
theorem dX10_addRule_58 : decode cX10_addRule 58 = .ok (.aload_n 0, 1) := by decide +kernel
theorem dX10_addRule_59 : decode cX10_addRule 59 = .ok (.getfield 54, 3) := by decide +kernel
theorem dX10_addRule_62 : decode cX10_addRule 62 = .ok (.iload_n 1, 1) := by decide +kernel
theorem dX10_addRule_63 : decode cX10_addRule 63 = .ok (.iload_n 2, 1) := by decide +kernel
theorem dX10_addRule_64 : decode cX10_addRule 64 = .ok (.iload_n 3, 1) := by decide +kernel
theorem dX10_addRule_65 : decode cX10_addRule 65 = .ok (.iload 4, 2) := by decide +kernel
theorem dX10_addRule_67 : decode cX10_addRule 67 = .ok (.iload 5, 2) := by decide +kernel
theorem dX10_addRule_69 : decode cX10_addRule 69 = .ok (.invokevirtual 223, 3) := by decide +kernel
theorem dX10_addRule_72 : decode cX10_addRule 72 = .ok (.ireturn, 1) := by decide +kernel
theorem dX10_mayWaive_0 : decode cX10_mayWaive 0 = .ok (.iload_n 1, 1) := by decide +kernel
theorem dX10_mayWaive_1 : decode cX10_mayWaive 1 = .ok (.aload_n 0, 1) := by decide +kernel
theorem dX10_mayWaive_2 : decode cX10_mayWaive 2 = .ok (.getfield 54, 3) := by decide +kernel
theorem dX10_mayWaive_5 : decode cX10_mayWaive 5 = .ok (.getfield 220, 3) := by decide +kernel
theorem dX10_mayWaive_8 : decode cX10_mayWaive 8 = .ok (.invokestatic 90, 3) := by decide +kernel
theorem dX10_mayWaive_11 : decode cX10_mayWaive 11 = .ok (.ifCond .ne 13, 3) := by decide +kernel
theorem dX10_mayWaive_14 : decode cX10_mayWaive 14 = .ok (.new 142, 3) := by decide +kernel
theorem dX10_mayWaive_17 : decode cX10_mayWaive 17 = .ok (.dup, 1) := by decide +kernel
theorem dX10_mayWaive_18 : decode cX10_mayWaive 18 = .ok (.ldc 226, 2) := by decide +kernel
theorem dX10_mayWaive_20 : decode cX10_mayWaive 20 = .ok (.invokespecial 146, 3) := by decide +kernel
theorem dX10_mayWaive_23 : decode cX10_mayWaive 23 = .ok (.athrow, 1) := by decide +kernel
theorem dX10_mayWaive_24 : decode cX10_mayWaive 24 = .ok (.iload_n 2, 1) := by decide +kernel
theorem dX10_mayWaive_25 : decode cX10_mayWaive 25 = .ok (.bipush 6, 2) := by decide +kernel
theorem dX10_mayWaive_27 : decode cX10_mayWaive 27 = .ok (.invokestatic 90, 3) := by decide +kernel
theorem dX10_mayWaive_30 : decode cX10_mayWaive 30 = .ok (.ifCond .ne 13, 3) := by decide +kernel
theorem dX10_mayWaive_33 : decode cX10_mayWaive 33 = .ok (.new 99, 3) := by decide +kernel
theorem dX10_mayWaive_36 : decode cX10_mayWaive 36 = .ok (.dup, 1) := by decide +kernel
theorem dX10_mayWaive_37 : decode cX10_mayWaive 37 = .ok (.ldc 228, 2) := by decide +kernel
theorem dX10_mayWaive_39 : decode cX10_mayWaive 39 = .ok (.invokespecial 103, 3) := by decide +kernel
theorem dX10_mayWaive_42 : decode cX10_mayWaive 42 = .ok (.athrow, 1) := by decide +kernel
theorem dX10_mayWaive_43 : decode cX10_mayWaive 43 = .ok (.aload_n 0, 1) := by decide +kernel
theorem dX10_mayWaive_44 : decode cX10_mayWaive 44 = .ok (.getfield 54, 3) := by decide +kernel
theorem dX10_mayWaive_47 : decode cX10_mayWaive 47 = .ok (.iload_n 1, 1) := by decide +kernel
theorem dX10_mayWaive_48 : decode cX10_mayWaive 48 = .ok (.iload_n 2, 1) := by decide +kernel
theorem dX10_mayWaive_49 : decode cX10_mayWaive 49 = .ok (.invokevirtual 230, 3) := by decide +kernel
theorem dX10_mayWaive_52 : decode cX10_mayWaive 52 = .ok (.istore_n 3, 1) := by decide +kernel
theorem dX10_mayWaive_53 : decode cX10_mayWaive 53 = .ok (.aload_n 0, 1) := by decide +kernel
theorem dX10_mayWaive_54 : decode cX10_mayWaive 54 = .ok (.getfield 54, 3) := by decide +kernel
theorem dX10_mayWaive_57 : decode cX10_mayWaive 57 = .ok (.getfield 233, 3) := by decide +kernel
theorem dX10_mayWaive_60 : decode cX10_mayWaive 60 = .ok (.iload_n 1, 1) := by decide +kernel
theorem dX10_mayWaive_61 : decode cX10_mayWaive 61 = .ok (.dup2, 1) := by decide +kernel
theorem dX10_mayWaive_62 : decode cX10_mayWaive 62 = .ok (.iaload, 1) := by decide +kernel
theorem dX10_mayWaive_63 : decode cX10_mayWaive 63 = .ok (.iconst 1, 1) := by decide +kernel
theorem dX10_mayWaive_64 : decode cX10_mayWaive 64 = .ok (.iload_n 2, 1) := by decide +kernel
theorem dX10_mayWaive_65 : decode cX10_mayWaive 65 = .ok (.ishl, 1) := by decide +kernel
theorem dX10_mayWaive_66 : decode cX10_mayWaive 66 = .ok (.ior, 1) := by decide +kernel
theorem dX10_mayWaive_67 : decode cX10_mayWaive 67 = .ok (.iastore, 1) := by decide +kernel
theorem dX10_mayWaive_68 : decode cX10_mayWaive 68 = .ok (.iload_n 3, 1) := by decide +kernel
theorem dX10_mayWaive_69 : decode cX10_mayWaive 69 = .ok (.ifCond .ne 7, 3) := by decide +kernel
theorem dX10_mayWaive_72 : decode cX10_mayWaive 72 = .ok (.iconst 1, 1) := by decide +kernel
theorem dX10_mayWaive_73 : decode cX10_mayWaive 73 = .ok (.goto 4, 3) := by decide +kernel
theorem dX10_mayWaive_76 : decode cX10_mayWaive 76 = .ok (.iconst 0, 1) := by decide +kernel
theorem dX10_mayWaive_77 : decode cX10_mayWaive 77 = .ok (.ireturn, 1) := by decide +kernel
theorem dX10_waive_0 : decode cX10_waive 0 = .ok (.iload_n 1, 1) := by decide +kernel
theorem dX10_waive_1 : decode cX10_waive 1 = .ok (.aload_n 0, 1) := by decide +kernel
theorem dX10_waive_2 : decode cX10_waive 2 = .ok (.getfield 54, 3) := by decide +kernel
theorem dX10_waive_5 : decode cX10_waive 5 = .ok (.getfield 220, 3) := by decide +kernel
theorem dX10_waive_8 : decode cX10_waive 8 = .ok (.invokestatic 90, 3) := by decide +kernel
theorem dX10_waive_11 : decode cX10_waive 11 = .ok (.ifCond .ne 13, 3) := by decide +kernel
theorem dX10_waive_14 : decode cX10_waive 14 = .ok (.new 142, 3) := by decide +kernel
theorem dX10_waive_17 : decode cX10_waive 17 = .ok (.dup, 1) := by decide +kernel
theorem dX10_waive_18 : decode cX10_waive 18 = .ok (.ldc 226, 2) := by decide +kernel
theorem dX10_waive_20 : decode cX10_waive 20 = .ok (.invokespecial 146, 3) := by decide +kernel
theorem dX10_waive_23 : decode cX10_waive 23 = .ok (.athrow, 1) := by decide +kernel
theorem dX10_waive_24 : decode cX10_waive 24 = .ok (.iload_n 2, 1) := by decide +kernel
theorem dX10_waive_25 : decode cX10_waive 25 = .ok (.bipush 6, 2) := by decide +kernel
theorem dX10_waive_27 : decode cX10_waive 27 = .ok (.invokestatic 90, 3) := by decide +kernel
theorem dX10_waive_30 : decode cX10_waive 30 = .ok (.ifCond .eq 14, 3) := by decide +kernel
theorem dX10_waive_33 : decode cX10_waive 33 = .ok (.iload_n 3, 1) := by decide +kernel
theorem dX10_waive_34 : decode cX10_waive 34 = .ok (.sipush (-600), 3) := by decide +kernel
theorem dX10_waive_37 : decode cX10_waive 37 = .ok (.iconst 0, 1) := by decide +kernel
theorem dX10_waive_38 : decode cX10_waive 38 = .ok (.invokestatic 95, 3) := by decide +kernel
theorem dX10_waive_41 : decode cX10_waive 41 = .ok (.ifCond .ne 13, 3) := by decide +kernel
theorem dX10_waive_44 : decode cX10_waive 44 = .ok (.new 99, 3) := by decide +kernel
theorem dX10_waive_47 : decode cX10_waive 47 = .ok (.dup, 1) := by decide +kernel
theorem dX10_waive_48 : decode cX10_waive 48 = .ok (.ldc 236, 2) := by decide +kernel
theorem dX10_waive_50 : decode cX10_waive 50 = .ok (.invokespecial 103, 3) := by decide +kernel
theorem dX10_waive_53 : decode cX10_waive 53 = .ok (.athrow, 1) := by decide +kernel
theorem dX10_waive_54 : decode cX10_waive 54 = .ok (.aload_n 0, 1) := by decide +kernel
theorem dX10_waive_55 : decode cX10_waive 55 = .ok (.getfield 54, 3) := by decide +kernel
theorem dX10_waive_58 : decode cX10_waive 58 = .ok (.iload_n 1, 1) := by decide +kernel
theorem dX10_waive_59 : decode cX10_waive 59 = .ok (.iload_n 2, 1) := by decide +kernel
theorem dX10_waive_60 : decode cX10_waive 60 = .ok (.invokevirtual 230, 3) := by decide +kernel
theorem dX10_waive_63 : decode cX10_waive 63 = .ok (.ifCond .ne 13, 3) := by decide +kernel
theorem dX10_waive_66 : decode cX10_waive 66 = .ok (.new 168, 3) := by decide +kernel
theorem dX10_waive_69 : decode cX10_waive 69 = .ok (.dup, 1) := by decide +kernel
theorem dX10_waive_70 : decode cX10_waive 70 = .ok (.ldc 238, 2) := by decide +kernel
theorem dX10_waive_72 : decode cX10_waive 72 = .ok (.invokespecial 170, 3) := by decide +kernel
theorem dX10_waive_75 : decode cX10_waive 75 = .ok (.athrow, 1) := by decide +kernel
theorem dX10_waive_76 : decode cX10_waive 76 = .ok (.aload_n 0, 1) := by decide +kernel
theorem dX10_waive_77 : decode cX10_waive 77 = .ok (.iload_n 1, 1) := by decide +kernel
theorem dX10_waive_78 : decode cX10_waive 78 = .ok (.invokevirtual 240, 3) := by decide +kernel
theorem dX10_waive_81 : decode cX10_waive 81 = .ok (.istore 4, 2) := by decide +kernel
theorem dX10_waive_83 : decode cX10_waive 83 = .ok (.aload_n 0, 1) := by decide +kernel
theorem dX10_waive_84 : decode cX10_waive 84 = .ok (.getfield 54, 3) := by decide +kernel
theorem dX10_waive_87 : decode cX10_waive 87 = .ok (.getfield 243, 3) := by decide +kernel
theorem dX10_waive_90 : decode cX10_waive 90 = .ok (.iload_n 1, 1) := by decide +kernel
theorem dX10_waive_91 : decode cX10_waive 91 = .ok (.iload_n 2, 1) := by decide +kernel
theorem dX10_waive_92 : decode cX10_waive 92 = .ok (.iastore, 1) := by decide +kernel
theorem dX10_waive_93 : decode cX10_waive 93 = .ok (.aload_n 0, 1) := by decide +kernel
theorem dX10_waive_94 : decode cX10_waive 94 = .ok (.getfield 54, 3) := by decide +kernel
theorem dX10_waive_97 : decode cX10_waive 97 = .ok (.getfield 246, 3) := by decide +kernel
theorem dX10_waive_100 : decode cX10_waive 100 = .ok (.iload_n 1, 1) := by decide +kernel
theorem dX10_waive_101 : decode cX10_waive 101 = .ok (.iload_n 3, 1) := by decide +kernel
theorem dX10_waive_102 : decode cX10_waive 102 = .ok (.iastore, 1) := by decide +kernel
theorem dX10_waive_103 : decode cX10_waive 103 = .ok (.iload 4, 2) := by decide +kernel
theorem dX10_waive_105 : decode cX10_waive 105 = .ok (.ireturn, 1) := by decide +kernel
theorem dX10_go_0 : decode cX10_go 0 = .ok (.iload_n 1, 1) := by decide +kernel
theorem dX10_go_1 : decode cX10_go 1 = .ok (.bipush 6, 2) := by decide +kernel
theorem dX10_go_3 : decode cX10_go 3 = .ok (.invokestatic 90, 3) := by decide +kernel
theorem dX10_go_6 : decode cX10_go 6 = .ok (.ifCond .ne 13, 3) := by decide +kernel
theorem dX10_go_9 : decode cX10_go 9 = .ok (.new 99, 3) := by decide +kernel
theorem dX10_go_12 : decode cX10_go 12 = .ok (.dup, 1) := by decide +kernel
theorem dX10_go_13 : decode cX10_go 13 = .ok (.ldc 228, 2) := by decide +kernel
theorem dX10_go_15 : decode cX10_go 15 = .ok (.invokespecial 103, 3) := by decide +kernel
theorem dX10_go_18 : decode cX10_go 18 = .ok (.athrow, 1) := by decide +kernel
theorem dX10_go_19 : decode cX10_go 19 = .ok (.aload_n 0, 1) := by decide +kernel
theorem dX10_go_20 : decode cX10_go 20 = .ok (.getfield 79, 3) := by decide +kernel
theorem dX10_go_23 : decode cX10_go 23 = .ok (.iload_n 1, 1) := by decide +kernel
theorem dX10_go_24 : decode cX10_go 24 = .ok (.baload, 1) := by decide +kernel
theorem dX10_go_25 : decode cX10_go 25 = .ok (.istore_n 3, 1) := by decide +kernel
theorem dX10_go_26 : decode cX10_go 26 = .ok (.aload_n 0, 1) := by decide +kernel
theorem dX10_go_27 : decode cX10_go 27 = .ok (.getfield 79, 3) := by decide +kernel
theorem dX10_go_30 : decode cX10_go 30 = .ok (.iload_n 1, 1) := by decide +kernel
theorem dX10_go_31 : decode cX10_go 31 = .ok (.iload_n 2, 1) := by decide +kernel
theorem dX10_go_32 : decode cX10_go 32 = .ok (.bastore, 1) := by decide +kernel
theorem dX10_go_33 : decode cX10_go 33 = .ok (.iload_n 3, 1) := by decide +kernel
theorem dX10_go_34 : decode cX10_go 34 = .ok (.ireturn, 1) := by decide +kernel
theorem dX10_value_0 : decode cX10_value 0 = .ok (.iload_n 1, 1) := by decide +kernel
theorem dX10_value_1 : decode cX10_value 1 = .ok (.aload_n 0, 1) := by decide +kernel
theorem dX10_value_2 : decode cX10_value 2 = .ok (.getfield 54, 3) := by decide +kernel
theorem dX10_value_5 : decode cX10_value 5 = .ok (.getfield 220, 3) := by decide +kernel
theorem dX10_value_8 : decode cX10_value 8 = .ok (.invokestatic 90, 3) := by decide +kernel
theorem dX10_value_11 : decode cX10_value 11 = .ok (.ifCond .ne 13, 3) := by decide +kernel
theorem dX10_value_14 : decode cX10_value 14 = .ok (.new 142, 3) := by decide +kernel
theorem dX10_value_17 : decode cX10_value 17 = .ok (.dup, 1) := by decide +kernel
theorem dX10_value_18 : decode cX10_value 18 = .ok (.ldc 226, 2) := by decide +kernel
theorem dX10_value_20 : decode cX10_value 20 = .ok (.invokespecial 146, 3) := by decide +kernel
theorem dX10_value_23 : decode cX10_value 23 = .ok (.athrow, 1) := by decide +kernel
theorem dX10_value_24 : decode cX10_value 24 = .ok (.aload_n 0, 1) := by decide +kernel
theorem dX10_value_25 : decode cX10_value 25 = .ok (.iload_n 1, 1) := by decide +kernel
theorem dX10_value_26 : decode cX10_value 26 = .ok (.invokevirtual 249, 3) := by decide +kernel
theorem dX10_value_29 : decode cX10_value 29 = .ok (.ireturn, 1) := by decide +kernel
theorem dX10_holdsFor_0 : decode cX10_holdsFor 0 = .ok (.iload_n 1, 1) := by decide +kernel
theorem dX10_holdsFor_1 : decode cX10_holdsFor 1 = .ok (.aload_n 0, 1) := by decide +kernel
theorem dX10_holdsFor_2 : decode cX10_holdsFor 2 = .ok (.getfield 54, 3) := by decide +kernel
theorem dX10_holdsFor_5 : decode cX10_holdsFor 5 = .ok (.getfield 220, 3) := by decide +kernel
theorem dX10_holdsFor_8 : decode cX10_holdsFor 8 = .ok (.invokestatic 90, 3) := by decide +kernel
theorem dX10_holdsFor_11 : decode cX10_holdsFor 11 = .ok (.ifCond .ne 13, 3) := by decide +kernel
theorem dX10_holdsFor_14 : decode cX10_holdsFor 14 = .ok (.new 142, 3) := by decide +kernel
theorem dX10_holdsFor_17 : decode cX10_holdsFor 17 = .ok (.dup, 1) := by decide +kernel
theorem dX10_holdsFor_18 : decode cX10_holdsFor 18 = .ok (.ldc 226, 2) := by decide +kernel
theorem dX10_holdsFor_20 : decode cX10_holdsFor 20 = .ok (.invokespecial 146, 3) := by decide +kernel
theorem dX10_holdsFor_23 : decode cX10_holdsFor 23 = .ok (.athrow, 1) := by decide +kernel
theorem dX10_holdsFor_24 : decode cX10_holdsFor 24 = .ok (.aload_n 0, 1) := by decide +kernel
theorem dX10_holdsFor_25 : decode cX10_holdsFor 25 = .ok (.getfield 54, 3) := by decide +kernel
theorem dX10_holdsFor_28 : decode cX10_holdsFor 28 = .ok (.getfield 252, 3) := by decide +kernel
theorem dX10_holdsFor_31 : decode cX10_holdsFor 31 = .ok (.iload_n 1, 1) := by decide +kernel
theorem dX10_holdsFor_32 : decode cX10_holdsFor 32 = .ok (.iaload, 1) := by decide +kernel
theorem dX10_holdsFor_33 : decode cX10_holdsFor 33 = .ok (.ireturn, 1) := by decide +kernel
theorem dX10_isMet_0 : decode cX10_isMet 0 = .ok (.iload_n 1, 1) := by decide +kernel
theorem dX10_isMet_1 : decode cX10_isMet 1 = .ok (.aload_n 0, 1) := by decide +kernel
theorem dX10_isMet_2 : decode cX10_isMet 2 = .ok (.getfield 54, 3) := by decide +kernel
theorem dX10_isMet_5 : decode cX10_isMet 5 = .ok (.getfield 220, 3) := by decide +kernel
theorem dX10_isMet_8 : decode cX10_isMet 8 = .ok (.invokestatic 90, 3) := by decide +kernel
theorem dX10_isMet_11 : decode cX10_isMet 11 = .ok (.ifCond .ne 13, 3) := by decide +kernel
theorem dX10_isMet_14 : decode cX10_isMet 14 = .ok (.new 142, 3) := by decide +kernel
theorem dX10_isMet_17 : decode cX10_isMet 17 = .ok (.dup, 1) := by decide +kernel
theorem dX10_isMet_18 : decode cX10_isMet 18 = .ok (.ldc 226, 2) := by decide +kernel
theorem dX10_isMet_20 : decode cX10_isMet 20 = .ok (.invokespecial 146, 3) := by decide +kernel
theorem dX10_isMet_23 : decode cX10_isMet 23 = .ok (.athrow, 1) := by decide +kernel
theorem dX10_isMet_24 : decode cX10_isMet 24 = .ok (.aload_n 0, 1) := by decide +kernel
theorem dX10_isMet_25 : decode cX10_isMet 25 = .ok (.iload_n 1, 1) := by decide +kernel
theorem dX10_isMet_26 : decode cX10_isMet 26 = .ok (.invokevirtual 255, 3) := by decide +kernel
theorem dX10_isMet_29 : decode cX10_isMet 29 = .ok (.ireturn, 1) := by decide +kernel
theorem dX10_begin_0 : decode cX10_begin 0 = .ok (.iload_n 1, 1) := by decide +kernel
theorem dX10_begin_1 : decode cX10_begin 1 = .ok (.sipush (-600), 3) := by decide +kernel
theorem dX10_begin_4 : decode cX10_begin 4 = .ok (.bipush (-10), 2) := by decide +kernel
theorem dX10_begin_6 : decode cX10_begin 6 = .ok (.invokestatic 95, 3) := by decide +kernel
theorem dX10_begin_9 : decode cX10_begin 9 = .ok (.ifCond .eq 25, 3) := by decide +kernel
theorem dX10_begin_12 : decode cX10_begin 12 = .ok (.iload_n 2, 1) := by decide +kernel
theorem dX10_begin_13 : decode cX10_begin 13 = .ok (.iconst 0, 1) := by decide +kernel
theorem dX10_begin_14 : decode cX10_begin 14 = .ok (.sipush 5000, 3) := by decide +kernel
theorem dX10_begin_17 : decode cX10_begin 17 = .ok (.invokestatic 95, 3) := by decide +kernel
theorem dX10_begin_20 : decode cX10_begin 20 = .ok (.ifCond .eq 14, 3) := by decide +kernel
theorem dX10_begin_23 : decode cX10_begin 23 = .ok (.iload_n 3, 1) := by decide +kernel
theorem dX10_begin_24 : decode cX10_begin 24 = .ok (.iload_n 2, 1) := by decide +kernel
theorem dX10_begin_25 : decode cX10_begin 25 = .ok (.sipush 5000, 3) := by decide +kernel
theorem dX10_begin_28 : decode cX10_begin 28 = .ok (.invokestatic 95, 3) := by decide +kernel
theorem dX10_begin_31 : decode cX10_begin 31 = .ok (.ifCond .ne 13, 3) := by decide +kernel
theorem dX10_begin_34 : decode cX10_begin 34 = .ok (.new 99, 3) := by decide +kernel
theorem dX10_begin_37 : decode cX10_begin 37 = .ok (.dup, 1) := by decide +kernel
theorem dX10_begin_38 : decode cX10_begin 38 = .ok (.ldc 125, 2) := by decide +kernel
theorem dX10_begin_40 : decode cX10_begin 40 = .ok (.invokespecial 103, 3) := by decide +kernel
theorem dX10_begin_43 : decode cX10_begin 43 = .ok (.athrow, 1) := by decide +kernel
theorem dX10_begin_44 : decode cX10_begin 44 = .ok (.aload_n 0, 1) := by decide +kernel
theorem dX10_begin_45 : decode cX10_begin 45 = .ok (.invokevirtual 130, 3) := by decide +kernel
theorem dX10_begin_48 : decode cX10_begin 48 = .ok (.ifCond .eq 14, 3) := by decide +kernel
theorem dX10_begin_51 : decode cX10_begin 51 = .ok (.new 134, 3) := by decide +kernel
theorem dX10_begin_54 : decode cX10_begin 54 = .ok (.dup, 1) := by decide +kernel
theorem dX10_begin_55 : decode cX10_begin 55 = .ok (.ldc_w 258, 3) := by decide +kernel
theorem dX10_begin_58 : decode cX10_begin 58 = .ok (.invokespecial 138, 3) := by decide +kernel
theorem dX10_begin_61 : decode cX10_begin 61 = .ok (.athrow, 1) := by decide +kernel
theorem dX10_begin_62 : decode cX10_begin 62 = .ok (.aload_n 0, 1) := by decide +kernel
theorem dX10_begin_63 : decode cX10_begin 63 = .ok (.getfield 61, 3) := by decide +kernel
theorem dX10_begin_66 : decode cX10_begin 66 = .ok (.iload_n 1, 1) := by decide +kernel
theorem dX10_begin_67 : decode cX10_begin 67 = .ok (.aload_n 0, 1) := by decide +kernel
theorem dX10_begin_68 : decode cX10_begin 68 = .ok (.getfield 87, 3) := by decide +kernel
theorem dX10_begin_71 : decode cX10_begin 71 = .ok (.iload_n 2, 1) := by decide +kernel
theorem dX10_begin_72 : decode cX10_begin 72 = .ok (.iadd, 1) := by decide +kernel
theorem dX10_begin_73 : decode cX10_begin 73 = .ok (.aload_n 0, 1) := by decide +kernel
theorem dX10_begin_74 : decode cX10_begin 74 = .ok (.getfield 87, 3) := by decide +kernel
theorem dX10_begin_77 : decode cX10_begin 77 = .ok (.iload_n 3, 1) := by decide +kernel
theorem dX10_begin_78 : decode cX10_begin 78 = .ok (.iadd, 1) := by decide +kernel
theorem dX10_begin_79 : decode cX10_begin 79 = .ok (.invokevirtual 260, 3) := by decide +kernel
theorem dX10_begin_82 : decode cX10_begin 82 = .ok (.aload_n 0, 1) := by decide +kernel
theorem dX10_begin_83 : decode cX10_begin 83 = .ok (.getfield 19, 3) := by decide +kernel
theorem dX10_begin_86 : decode cX10_begin 86 = .ok (.invokevirtual 263, 3) := by decide +kernel
theorem dX10_begin_89 : decode cX10_begin 89 = .ok (.aload_n 0, 1) := by decide +kernel
theorem dX10_begin_90 : decode cX10_begin 90 = .ok (.getfield 54, 3) := by decide +kernel
theorem dX10_begin_93 : decode cX10_begin 93 = .ok (.invokevirtual 266, 3) := by decide +kernel
theorem dX10_begin_96 : decode cX10_begin 96 = .ok (.aload_n 0, 1) := by decide +kernel
theorem dX10_begin_97 : decode cX10_begin 97 = .ok (.getfield 75, 3) := by decide +kernel
theorem dX10_begin_100 : decode cX10_begin 100 = .ok (.aload_n 0, 1) := by decide +kernel
theorem dX10_begin_101 : decode cX10_begin 101 = .ok (.getfield 87, 3) := by decide +kernel
theorem dX10_begin_104 : decode cX10_begin 104 = .ok (.bipush 67, 2) := by decide +kernel
theorem dX10_begin_106 : decode cX10_begin 106 = .ok (.bipush 99, 2) := by decide +kernel
theorem dX10_begin_108 : decode cX10_begin 108 = .ok (.invokevirtual 269, 3) := by decide +kernel
theorem dX10_begin_111 : decode cX10_begin 111 = .ok (.aload_n 0, 1) := by decide +kernel
theorem dX10_begin_112 : decode cX10_begin 112 = .ok (.getfield 87, 3) := by decide +kernel
theorem dX10_begin_115 : decode cX10_begin 115 = .ok (.iload_n 1, 1) := by decide +kernel
theorem dX10_begin_116 : decode cX10_begin 116 = .ok (.isub, 1) := by decide +kernel
theorem dX10_begin_117 : decode cX10_begin 117 = .ok (.ireturn, 1) := by decide +kernel
theorem dX10_recycle_0 : decode cX10_recycle 0 = .ok (.iload_n 1, 1) := by decide +kernel
theorem dX10_recycle_1 : decode cX10_recycle 1 = .ok (.aload_n 0, 1) := by decide +kernel
theorem dX10_recycle_2 : decode cX10_recycle 2 = .ok (.getfield 26, 3) := by decide +kernel
theorem dX10_recycle_5 : decode cX10_recycle 5 = .ok (.getfield 171, 3) := by decide +kernel
theorem dX10_recycle_8 : decode cX10_recycle 8 = .ok (.invokestatic 90, 3) := by decide +kernel
theorem dX10_recycle_11 : decode cX10_recycle 11 = .ok (.ifCond .ne 14, 3) := by decide +kernel
theorem dX10_recycle_14 : decode cX10_recycle 14 = .ok (.new 142, 3) := by decide +kernel
theorem dX10_recycle_17 : decode cX10_recycle 17 = .ok (.dup, 1) := by decide +kernel
theorem dX10_recycle_18 : decode cX10_recycle 18 = .ok (.ldc_w 273, 3) := by decide +kernel
theorem dX10_recycle_21 : decode cX10_recycle 21 = .ok (.invokespecial 146, 3) := by decide +kernel
theorem dX10_recycle_24 : decode cX10_recycle 24 = .ok (.athrow, 1) := by decide +kernel
theorem dX10_recycle_25 : decode cX10_recycle 25 = .ok (.aload_n 0, 1) := by decide +kernel
theorem dX10_recycle_26 : decode cX10_recycle 26 = .ok (.invokevirtual 275, 3) := by decide +kernel
theorem dX10_recycle_29 : decode cX10_recycle 29 = .ok (.ifCond .eq 22, 3) := by decide +kernel
theorem dX10_recycle_32 : decode cX10_recycle 32 = .ok (.aload_n 0, 1) := by decide +kernel
theorem dX10_recycle_33 : decode cX10_recycle 33 = .ok (.getfield 61, 3) := by decide +kernel
theorem dX10_recycle_36 : decode cX10_recycle 36 = .ok (.getfield 278, 3) := by decide +kernel
theorem dX10_recycle_39 : decode cX10_recycle 39 = .ok (.aload_n 0, 1) := by decide +kernel
theorem dX10_recycle_40 : decode cX10_recycle 40 = .ok (.getfield 26, 3) := by decide +kernel
theorem dX10_recycle_43 : decode cX10_recycle 43 = .ok (.getfield 281, 3) := by decide +kernel
theorem dX10_recycle_46 : decode cX10_recycle 46 = .ok (.iload_n 1, 1) := by decide +kernel
theorem dX10_recycle_47 : decode cX10_recycle 47 = .ok (.iaload, 1) := by decide +kernel
theorem dX10_recycle_48 : decode cX10_recycle 48 = .ok (.if_icmp .gt 14, 3) := by decide +kernel
theorem dX10_recycle_51 : decode cX10_recycle 51 = .ok (.new 168, 3) := by decide +kernel
theorem dX10_recycle_54 : decode cX10_recycle 54 = .ok (.dup, 1) := by decide +kernel
theorem dX10_recycle_55 : decode cX10_recycle 55 = .ok (.ldc_w 284, 3) := by decide +kernel
theorem dX10_recycle_58 : decode cX10_recycle 58 = .ok (.invokespecial 170, 3) := by decide +kernel
theorem dX10_recycle_61 : decode cX10_recycle 61 = .ok (.athrow, 1) := by decide +kernel
theorem dX10_recycle_62 : decode cX10_recycle 62 = .ok (.aload_n 0, 1) := by decide +kernel
theorem dX10_recycle_63 : decode cX10_recycle 63 = .ok (.getfield 61, 3) := by decide +kernel
theorem dX10_recycle_66 : decode cX10_recycle 66 = .ok (.aload_n 0, 1) := by decide +kernel
theorem dX10_recycle_67 : decode cX10_recycle 67 = .ok (.getfield 26, 3) := by decide +kernel
theorem dX10_recycle_70 : decode cX10_recycle 70 = .ok (.getfield 281, 3) := by decide +kernel
theorem dX10_recycle_73 : decode cX10_recycle 73 = .ok (.iload_n 1, 1) := by decide +kernel
theorem dX10_recycle_74 : decode cX10_recycle 74 = .ok (.iaload, 1) := by decide +kernel
theorem dX10_recycle_75 : decode cX10_recycle 75 = .ok (.invokevirtual 286, 3) := by decide +kernel
theorem dX10_recycle_78 : decode cX10_recycle 78 = .ok (.aload_n 0, 1) := by decide +kernel
theorem dX10_recycle_79 : decode cX10_recycle 79 = .ok (.getfield 54, 3) := by decide +kernel
theorem dX10_recycle_82 : decode cX10_recycle 82 = .ok (.invokevirtual 266, 3) := by decide +kernel
theorem dX10_recycle_85 : decode cX10_recycle 85 = .ok (.aload_n 0, 1) := by decide +kernel
theorem dX10_recycle_86 : decode cX10_recycle 86 = .ok (.getfield 75, 3) := by decide +kernel
theorem dX10_recycle_89 : decode cX10_recycle 89 = .ok (.aload_n 0, 1) := by decide +kernel
theorem dX10_recycle_90 : decode cX10_recycle 90 = .ok (.getfield 87, 3) := by decide +kernel
theorem dX10_recycle_93 : decode cX10_recycle 93 = .ok (.bipush 82, 2) := by decide +kernel
theorem dX10_recycle_95 : decode cX10_recycle 95 = .ok (.bipush 99, 2) := by decide +kernel
theorem dX10_recycle_97 : decode cX10_recycle 97 = .ok (.invokevirtual 269, 3) := by decide +kernel
theorem dX10_recycle_100 : decode cX10_recycle 100 = .ok (.aload_n 0, 1) := by decide +kernel
theorem dX10_recycle_101 : decode cX10_recycle 101 = .ok (.getfield 19, 3) := by decide +kernel
theorem dX10_recycle_104 : decode cX10_recycle 104 = .ok (.aload_n 0, 1) := by decide +kernel
theorem dX10_recycle_105 : decode cX10_recycle 105 = .ok (.getfield 26, 3) := by decide +kernel
theorem dX10_recycle_108 : decode cX10_recycle 108 = .ok (.getfield 281, 3) := by decide +kernel
theorem dX10_recycle_111 : decode cX10_recycle 111 = .ok (.iload_n 1, 1) := by decide +kernel
theorem dX10_recycle_112 : decode cX10_recycle 112 = .ok (.iaload, 1) := by decide +kernel
theorem dX10_recycle_113 : decode cX10_recycle 113 = .ok (.invokevirtual 289, 3) := by decide +kernel
theorem dX10_recycle_116 : decode cX10_recycle 116 = .ok (.ireturn, 1) := by decide +kernel
theorem dX10_scrub_0 : decode cX10_scrub 0 = .ok (.aload_n 0, 1) := by decide +kernel
theorem dX10_scrub_1 : decode cX10_scrub 1 = .ok (.invokevirtual 275, 3) := by decide +kernel
theorem dX10_scrub_4 : decode cX10_scrub 4 = .ok (.ifCond .ne 5, 3) := by decide +kernel
theorem dX10_scrub_7 : decode cX10_scrub 7 = .ok (.iconst 0, 1) := by decide +kernel
theorem dX10_scrub_8 : decode cX10_scrub 8 = .ok (.ireturn, 1) := by decide +kernel
theorem dX10_scrub_9 : decode cX10_scrub 9 = .ok (.aload_n 0, 1) := by decide +kernel
theorem dX10_scrub_10 : decode cX10_scrub 10 = .ok (.getfield 61, 3) := by decide +kernel
theorem dX10_scrub_13 : decode cX10_scrub 13 = .ok (.bipush 99, 2) := by decide +kernel
theorem dX10_scrub_15 : decode cX10_scrub 15 = .ok (.iconst (-1), 1) := by decide +kernel
theorem dX10_scrub_16 : decode cX10_scrub 16 = .ok (.invokevirtual 292, 3) := by decide +kernel
theorem dX10_scrub_19 : decode cX10_scrub 19 = .ok (.aload_n 0, 1) := by decide +kernel
theorem dX10_scrub_20 : decode cX10_scrub 20 = .ok (.getfield 75, 3) := by decide +kernel
theorem dX10_scrub_23 : decode cX10_scrub 23 = .ok (.aload_n 0, 1) := by decide +kernel
theorem dX10_scrub_24 : decode cX10_scrub 24 = .ok (.getfield 87, 3) := by decide +kernel
theorem dX10_scrub_27 : decode cX10_scrub 27 = .ok (.bipush 83, 2) := by decide +kernel
theorem dX10_scrub_29 : decode cX10_scrub 29 = .ok (.bipush 115, 2) := by decide +kernel
theorem dX10_scrub_31 : decode cX10_scrub 31 = .ok (.invokevirtual 269, 3) := by decide +kernel
theorem dX10_scrub_34 : decode cX10_scrub 34 = .ok (.iconst 1, 1) := by decide +kernel
theorem dX10_scrub_35 : decode cX10_scrub 35 = .ok (.ireturn, 1) := by decide +kernel
theorem dX10_pass_0 : decode cX10_pass 0 = .ok (.iload_n 1, 1) := by decide +kernel
theorem dX10_pass_1 : decode cX10_pass 1 = .ok (.iconst 1, 1) := by decide +kernel
theorem dX10_pass_2 : decode cX10_pass 2 = .ok (.sipush 600, 3) := by decide +kernel
theorem dX10_pass_5 : decode cX10_pass 5 = .ok (.invokestatic 95, 3) := by decide +kernel
theorem dX10_pass_8 : decode cX10_pass 8 = .ok (.ifCond .ne 14, 3) := by decide +kernel
theorem dX10_pass_11 : decode cX10_pass 11 = .ok (.new 99, 3) := by decide +kernel
theorem dX10_pass_14 : decode cX10_pass 14 = .ok (.dup, 1) := by decide +kernel
theorem dX10_pass_15 : decode cX10_pass 15 = .ok (.ldc_w 296, 3) := by decide +kernel
theorem dX10_pass_18 : decode cX10_pass 18 = .ok (.invokespecial 103, 3) := by decide +kernel
theorem dX10_pass_21 : decode cX10_pass 21 = .ok (.athrow, 1) := by decide +kernel
theorem dX10_pass_22 : decode cX10_pass 22 = .ok (.aload_n 0, 1) := by decide +kernel
theorem dX10_pass_23 : decode cX10_pass 23 = .ok (.getfield 87, 3) := by decide +kernel
theorem dX10_pass_26 : decode cX10_pass 26 = .ok (.iload_n 1, 1) := by decide +kernel
theorem dX10_pass_27 : decode cX10_pass 27 = .ok (.iadd, 1) := by decide +kernel
theorem dX10_pass_28 : decode cX10_pass 28 = .ok (.ldc 94, 2) := by decide +kernel
theorem dX10_pass_30 : decode cX10_pass 30 = .ok (.if_icmp .le 14, 3) := by decide +kernel
theorem dX10_pass_33 : decode cX10_pass 33 = .ok (.new 134, 3) := by decide +kernel
theorem dX10_pass_36 : decode cX10_pass 36 = .ok (.dup, 1) := by decide +kernel
theorem dX10_pass_37 : decode cX10_pass 37 = .ok (.ldc_w 298, 3) := by decide +kernel
theorem dX10_pass_40 : decode cX10_pass 40 = .ok (.invokespecial 138, 3) := by decide +kernel
theorem dX10_pass_43 : decode cX10_pass 43 = .ok (.athrow, 1) := by decide +kernel
theorem dX10_pass_44 : decode cX10_pass 44 = .ok (.iconst 0, 1) := by decide +kernel
theorem dX10_pass_45 : decode cX10_pass 45 = .ok (.istore_n 2, 1) := by decide +kernel
theorem dX10_pass_46 : decode cX10_pass 46 = .ok (.iload_n 2, 1) := by decide +kernel
theorem dX10_pass_47 : decode cX10_pass 47 = .ok (.iload_n 1, 1) := by decide +kernel
theorem dX10_pass_48 : decode cX10_pass 48 = .ok (.if_icmp .ge 13, 3) := by decide +kernel
theorem dX10_pass_51 : decode cX10_pass 51 = .ok (.aload_n 0, 1) := by decide +kernel
theorem dX10_pass_52 : decode cX10_pass 52 = .ok (.invokevirtual 300, 3) := by decide +kernel
theorem dX10_pass_55 : decode cX10_pass 55 = .ok (.iinc 2 1, 3) := by decide +kernel
theorem dX10_pass_58 : decode cX10_pass 58 = .ok (.goto (-12), 3) := by decide +kernel
theorem dX10_pass_61 : decode cX10_pass 61 = .ok (.aload_n 0, 1) := by decide +kernel
theorem dX10_pass_62 : decode cX10_pass 62 = .ok (.getfield 87, 3) := by decide +kernel
theorem dX10_pass_65 : decode cX10_pass 65 = .ok (.ireturn, 1) := by decide +kernel
theorem dX10_track_0 : decode cX10_track 0 = .ok (.iload_n 1, 1) := by decide +kernel
theorem dX10_track_1 : decode cX10_track 1 = .ok (.iconst 2, 1) := by decide +kernel
theorem dX10_track_2 : decode cX10_track 2 = .ok (.invokestatic 90, 3) := by decide +kernel
theorem dX10_track_5 : decode cX10_track 5 = .ok (.ifCond .eq 16, 3) := by decide +kernel
theorem dX10_track_8 : decode cX10_track 8 = .ok (.iload_n 2, 1) := by decide +kernel
theorem dX10_track_9 : decode cX10_track 9 = .ok (.sipush (-999), 3) := by decide +kernel
theorem dX10_track_12 : decode cX10_track 12 = .ok (.sipush 999, 3) := by decide +kernel
theorem dX10_track_15 : decode cX10_track 15 = .ok (.invokestatic 95, 3) := by decide +kernel
theorem dX10_track_18 : decode cX10_track 18 = .ok (.ifCond .ne 13, 3) := by decide +kernel
theorem dX10_track_21 : decode cX10_track 21 = .ok (.new 99, 3) := by decide +kernel
theorem dX10_track_24 : decode cX10_track 24 = .ok (.dup, 1) := by decide +kernel
theorem dX10_track_25 : decode cX10_track 25 = .ok (.ldc 125, 2) := by decide +kernel
theorem dX10_track_27 : decode cX10_track 27 = .ok (.invokespecial 103, 3) := by decide +kernel
theorem dX10_track_30 : decode cX10_track 30 = .ok (.athrow, 1) := by decide +kernel
theorem dX10_track_31 : decode cX10_track 31 = .ok (.aload_n 0, 1) := by decide +kernel
theorem dX10_track_32 : decode cX10_track 32 = .ok (.getfield 68, 3) := by decide +kernel
theorem dX10_track_35 : decode cX10_track 35 = .ok (.getfield 303, 3) := by decide +kernel
theorem dX10_track_38 : decode cX10_track 38 = .ok (.iload_n 1, 1) := by decide +kernel
theorem dX10_track_39 : decode cX10_track 39 = .ok (.iaload, 1) := by decide +kernel
theorem dX10_track_40 : decode cX10_track 40 = .ok (.istore_n 3, 1) := by decide +kernel
theorem dX10_track_41 : decode cX10_track 41 = .ok (.aload_n 0, 1) := by decide +kernel
theorem dX10_track_42 : decode cX10_track 42 = .ok (.getfield 68, 3) := by decide +kernel
theorem dX10_track_45 : decode cX10_track 45 = .ok (.getfield 303, 3) := by decide +kernel
theorem dX10_track_48 : decode cX10_track 48 = .ok (.iload_n 1, 1) := by decide +kernel
theorem dX10_track_49 : decode cX10_track 49 = .ok (.iload_n 2, 1) := by decide +kernel
theorem dX10_track_50 : decode cX10_track 50 = .ok (.iastore, 1) := by decide +kernel
theorem dX10_track_51 : decode cX10_track 51 = .ok (.iload_n 3, 1) := by decide +kernel
theorem dX10_track_52 : decode cX10_track 52 = .ok (.ireturn, 1) := by decide +kernel
theorem dX10_state_0 : decode cX10_state 0 = .ok (.aload_n 0, 1) := by decide +kernel
theorem dX10_state_1 : decode cX10_state 1 = .ok (.getfield 75, 3) := by decide +kernel
theorem dX10_state_4 : decode cX10_state 4 = .ok (.getfield 306, 3) := by decide +kernel
theorem dX10_state_7 : decode cX10_state 7 = .ok (.ireturn, 1) := by decide +kernel
theorem dX10_count_0 : decode cX10_count 0 = .ok (.aload_n 0, 1) := by decide +kernel
theorem dX10_count_1 : decode cX10_count 1 = .ok (.getfield 75, 3) := by decide +kernel
theorem dX10_count_4 : decode cX10_count 4 = .ok (.getfield 306, 3) := by decide +kernel
theorem dX10_count_7 : decode cX10_count 7 = .ok (.bipush 45, 2) := by decide +kernel
theorem dX10_count_9 : decode cX10_count 9 = .ok (.if_icmp .ne 14, 3) := by decide +kernel
theorem dX10_count_12 : decode cX10_count 12 = .ok (.new 134, 3) := by decide +kernel
theorem dX10_count_15 : decode cX10_count 15 = .ok (.dup, 1) := by decide +kernel
theorem dX10_count_16 : decode cX10_count 16 = .ok (.ldc_w 309, 3) := by decide +kernel
theorem dX10_count_19 : decode cX10_count 19 = .ok (.invokespecial 138, 3) := by decide +kernel
theorem dX10_count_22 : decode cX10_count 22 = .ok (.athrow, 1) := by decide +kernel
theorem dX10_count_23 : decode cX10_count 23 = .ok (.aload_n 0, 1) := by decide +kernel
theorem dX10_count_24 : decode cX10_count 24 = .ok (.getfield 61, 3) := by decide +kernel
theorem dX10_count_27 : decode cX10_count 27 = .ok (.getfield 278, 3) := by decide +kernel
theorem dX10_count_30 : decode cX10_count 30 = .ok (.ireturn, 1) := by decide +kernel
theorem dX10_second_0 : decode cX10_second 0 = .ok (.aload_n 0, 1) := by decide +kernel
theorem dX10_second_1 : decode cX10_second 1 = .ok (.getfield 87, 3) := by decide +kernel
theorem dX10_second_4 : decode cX10_second 4 = .ok (.ireturn, 1) := by decide +kernel
theorem dX10_holds_0 : decode cX10_holds 0 = .ok (.aload_n 0, 1) := by decide +kernel
theorem dX10_holds_1 : decode cX10_holds 1 = .ok (.getfield 75, 3) := by decide +kernel
theorem dX10_holds_4 : decode cX10_holds 4 = .ok (.getfield 306, 3) := by decide +kernel
theorem dX10_holds_7 : decode cX10_holds 7 = .ok (.bipush 45, 2) := by decide +kernel
theorem dX10_holds_9 : decode cX10_holds 9 = .ok (.if_icmp .ne 14, 3) := by decide +kernel
theorem dX10_holds_12 : decode cX10_holds 12 = .ok (.new 134, 3) := by decide +kernel
theorem dX10_holds_15 : decode cX10_holds 15 = .ok (.dup, 1) := by decide +kernel
theorem dX10_holds_16 : decode cX10_holds 16 = .ok (.ldc_w 309, 3) := by decide +kernel
theorem dX10_holds_19 : decode cX10_holds 19 = .ok (.invokespecial 138, 3) := by decide +kernel
theorem dX10_holds_22 : decode cX10_holds 22 = .ok (.athrow, 1) := by decide +kernel
theorem dX10_holds_23 : decode cX10_holds 23 = .ok (.aload_n 0, 1) := by decide +kernel
theorem dX10_holds_24 : decode cX10_holds 24 = .ok (.getfield 61, 3) := by decide +kernel
theorem dX10_holds_27 : decode cX10_holds 27 = .ok (.getfield 311, 3) := by decide +kernel
theorem dX10_holds_30 : decode cX10_holds 30 = .ok (.ireturn, 1) := by decide +kernel
theorem dX10_cause_0 : decode cX10_cause 0 = .ok (.aload_n 0, 1) := by decide +kernel
theorem dX10_cause_1 : decode cX10_cause 1 = .ok (.invokevirtual 314, 3) := by decide +kernel
theorem dX10_cause_4 : decode cX10_cause 4 = .ok (.ifCond .ne 14, 3) := by decide +kernel
theorem dX10_cause_7 : decode cX10_cause 7 = .ok (.new 317, 3) := by decide +kernel
theorem dX10_cause_10 : decode cX10_cause 10 = .ok (.dup, 1) := by decide +kernel
theorem dX10_cause_11 : decode cX10_cause 11 = .ok (.ldc_w 319, 3) := by decide +kernel
theorem dX10_cause_14 : decode cX10_cause 14 = .ok (.invokespecial 321, 3) := by decide +kernel
theorem dX10_cause_17 : decode cX10_cause 17 = .ok (.athrow, 1) := by decide +kernel
theorem dX10_cause_18 : decode cX10_cause 18 = .ok (.aload_n 0, 1) := by decide +kernel
theorem dX10_cause_19 : decode cX10_cause 19 = .ok (.getfield 61, 3) := by decide +kernel
theorem dX10_cause_22 : decode cX10_cause 22 = .ok (.getfield 322, 3) := by decide +kernel
theorem dX10_cause_25 : decode cX10_cause 25 = .ok (.ireturn, 1) := by decide +kernel
theorem dX10_causeRule_0 : decode cX10_causeRule 0 = .ok (.aload_n 0, 1) := by decide +kernel
theorem dX10_causeRule_1 : decode cX10_causeRule 1 = .ok (.invokevirtual 314, 3) := by decide +kernel
theorem dX10_causeRule_4 : decode cX10_causeRule 4 = .ok (.ifCond .eq 14, 3) := by decide +kernel
theorem dX10_causeRule_7 : decode cX10_causeRule 7 = .ok (.aload_n 0, 1) := by decide +kernel
theorem dX10_causeRule_8 : decode cX10_causeRule 8 = .ok (.getfield 61, 3) := by decide +kernel
theorem dX10_causeRule_11 : decode cX10_causeRule 11 = .ok (.getfield 325, 3) := by decide +kernel
theorem dX10_causeRule_14 : decode cX10_causeRule 14 = .ok (.iconst (-1), 1) := by decide +kernel
theorem dX10_causeRule_15 : decode cX10_causeRule 15 = .ok (.if_icmp .ne 14, 3) := by decide +kernel
theorem dX10_causeRule_18 : decode cX10_causeRule 18 = .ok (.new 317, 3) := by decide +kernel
theorem dX10_causeRule_21 : decode cX10_causeRule 21 = .ok (.dup, 1) := by decide +kernel
theorem dX10_causeRule_22 : decode cX10_causeRule 22 = .ok (.ldc_w 328, 3) := by decide +kernel
theorem dX10_causeRule_25 : decode cX10_causeRule 25 = .ok (.invokespecial 321, 3) := by decide +kernel
theorem dX10_causeRule_28 : decode cX10_causeRule 28 = .ok (.athrow, 1) := by decide +kernel
theorem dX10_causeRule_29 : decode cX10_causeRule 29 = .ok (.aload_n 0, 1) := by decide +kernel
theorem dX10_causeRule_30 : decode cX10_causeRule 30 = .ok (.getfield 61, 3) := by decide +kernel
theorem dX10_causeRule_33 : decode cX10_causeRule 33 = .ok (.getfield 325, 3) := by decide +kernel
theorem dX10_causeRule_36 : decode cX10_causeRule 36 = .ok (.ireturn, 1) := by decide +kernel
theorem dX10_risk_0 : decode cX10_risk 0 = .ok (.aload_n 0, 1) := by decide +kernel
theorem dX10_risk_1 : decode cX10_risk 1 = .ok (.getfield 47, 3) := by decide +kernel
theorem dX10_risk_4 : decode cX10_risk 4 = .ok (.invokevirtual 210, 3) := by decide +kernel
theorem dX10_risk_7 : decode cX10_risk 7 = .ok (.ireturn, 1) := by decide +kernel
theorem dX10_logLength_0 : decode cX10_logLength 0 = .ok (.aload_n 0, 1) := by decide +kernel
theorem dX10_logLength_1 : decode cX10_logLength 1 = .ok (.getfield 75, 3) := by decide +kernel
theorem dX10_logLength_4 : decode cX10_logLength 4 = .ok (.getfield 330, 3) := by decide +kernel
theorem dX10_logLength_7 : decode cX10_logLength 7 = .ok (.invokevirtual 334, 3) := by decide +kernel
theorem dX10_logLength_10 : decode cX10_logLength 10 = .ok (.ireturn, 1) := by decide +kernel
theorem dX10_logAt_0 : decode cX10_logAt 0 = .ok (.iload_n 1, 1) := by decide +kernel
theorem dX10_logAt_1 : decode cX10_logAt 1 = .ok (.aload_n 0, 1) := by decide +kernel
theorem dX10_logAt_2 : decode cX10_logAt 2 = .ok (.getfield 75, 3) := by decide +kernel
theorem dX10_logAt_5 : decode cX10_logAt 5 = .ok (.getfield 330, 3) := by decide +kernel
theorem dX10_logAt_8 : decode cX10_logAt 8 = .ok (.invokevirtual 334, 3) := by decide +kernel
theorem dX10_logAt_11 : decode cX10_logAt 11 = .ok (.invokestatic 90, 3) := by decide +kernel
theorem dX10_logAt_14 : decode cX10_logAt 14 = .ok (.ifCond .ne 14, 3) := by decide +kernel
theorem dX10_logAt_17 : decode cX10_logAt 17 = .ok (.new 142, 3) := by decide +kernel
theorem dX10_logAt_20 : decode cX10_logAt 20 = .ok (.dup, 1) := by decide +kernel
theorem dX10_logAt_21 : decode cX10_logAt 21 = .ok (.ldc_w 339, 3) := by decide +kernel
theorem dX10_logAt_24 : decode cX10_logAt 24 = .ok (.invokespecial 146, 3) := by decide +kernel
theorem dX10_logAt_27 : decode cX10_logAt 27 = .ok (.athrow, 1) := by decide +kernel
theorem dX10_logAt_28 : decode cX10_logAt 28 = .ok (.aload_n 0, 1) := by decide +kernel
theorem dX10_logAt_29 : decode cX10_logAt 29 = .ok (.getfield 75, 3) := by decide +kernel
theorem dX10_logAt_32 : decode cX10_logAt 32 = .ok (.getfield 330, 3) := by decide +kernel
theorem dX10_logAt_35 : decode cX10_logAt 35 = .ok (.iload_n 1, 1) := by decide +kernel
theorem dX10_logAt_36 : decode cX10_logAt 36 = .ok (.invokevirtual 341, 3) := by decide +kernel
theorem dX10_logAt_39 : decode cX10_logAt 39 = .ok (.ireturn, 1) := by decide +kernel
theorem dX10_logged_0 : decode cX10_logged 0 = .ok (.aload_n 0, 1) := by decide +kernel
theorem dX10_logged_1 : decode cX10_logged 1 = .ok (.getfield 75, 3) := by decide +kernel
theorem dX10_logged_4 : decode cX10_logged 4 = .ok (.iload_n 1, 1) := by decide +kernel
theorem dX10_logged_5 : decode cX10_logged 5 = .ok (.invokevirtual 345, 3) := by decide +kernel
theorem dX10_logged_8 : decode cX10_logged 8 = .ok (.ireturn, 1) := by decide +kernel
theorem dX10_isSound_0 : decode cX10_isSound 0 = .ok (.aload_n 0, 1) := by decide +kernel
theorem dX10_isSound_1 : decode cX10_isSound 1 = .ok (.invokevirtual 367, 3) := by decide +kernel
theorem dX10_isSound_4 : decode cX10_isSound 4 = .ok (.ifCond .eq 30, 3) := by decide +kernel
theorem dX10_isSound_7 : decode cX10_isSound 7 = .ok (.aload_n 0, 1) := by decide +kernel
theorem dX10_isSound_8 : decode cX10_isSound 8 = .ok (.getfield 68, 3) := by decide +kernel
theorem dX10_isSound_11 : decode cX10_isSound 11 = .ok (.getfield 370, 3) := by decide +kernel
theorem dX10_isSound_14 : decode cX10_isSound 14 = .ok (.ifCond .eq 24, 3) := by decide +kernel
theorem dX10_isSound_17 : decode cX10_isSound 17 = .ok (.aload_n 0, 1) := by decide +kernel
theorem dX10_isSound_18 : decode cX10_isSound 18 = .ok (.getfield 61, 3) := by decide +kernel
theorem dX10_isSound_21 : decode cX10_isSound 21 = .ok (.aload_n 0, 1) := by decide +kernel
theorem dX10_isSound_22 : decode cX10_isSound 22 = .ok (.getfield 68, 3) := by decide +kernel
theorem dX10_isSound_25 : decode cX10_isSound 25 = .ok (.getfield 374, 3) := by decide +kernel
theorem dX10_isSound_28 : decode cX10_isSound 28 = .ok (.invokevirtual 377, 3) := by decide +kernel
theorem dX10_isSound_31 : decode cX10_isSound 31 = .ok (.ifCond .eq 7, 3) := by decide +kernel
theorem dX10_isSound_34 : decode cX10_isSound 34 = .ok (.iconst 1, 1) := by decide +kernel
theorem dX10_isSound_35 : decode cX10_isSound 35 = .ok (.goto 4, 3) := by decide +kernel
theorem dX10_isSound_38 : decode cX10_isSound 38 = .ok (.iconst 0, 1) := by decide +kernel
theorem dX10_isSound_39 : decode cX10_isSound 39 = .ok (.istore_n 1, 1) := by decide +kernel
theorem dX10_isSound_40 : decode cX10_isSound 40 = .ok (.iload_n 1, 1) := by decide +kernel
theorem dX10_isSound_41 : decode cX10_isSound 41 = .ok (.ifCond .eq 27, 3) := by decide +kernel
theorem dX10_isSound_44 : decode cX10_isSound 44 = .ok (.aload_n 0, 1) := by decide +kernel
theorem dX10_isSound_45 : decode cX10_isSound 45 = .ok (.getfield 10, 3) := by decide +kernel
theorem dX10_isSound_48 : decode cX10_isSound 48 = .ok (.invokevirtual 380, 3) := by decide +kernel
theorem dX10_isSound_51 : decode cX10_isSound 51 = .ok (.ifCond .eq 17, 3) := by decide +kernel
theorem dX10_isSound_54 : decode cX10_isSound 54 = .ok (.aload_n 0, 1) := by decide +kernel
theorem dX10_isSound_55 : decode cX10_isSound 55 = .ok (.getfield 75, 3) := by decide +kernel
theorem dX10_isSound_58 : decode cX10_isSound 58 = .ok (.invokevirtual 383, 3) := by decide +kernel
theorem dX10_isSound_61 : decode cX10_isSound 61 = .ok (.ifCond .eq 7, 3) := by decide +kernel
theorem dX10_isSound_64 : decode cX10_isSound 64 = .ok (.iconst 1, 1) := by decide +kernel
theorem dX10_isSound_65 : decode cX10_isSound 65 = .ok (.goto 4, 3) := by decide +kernel
theorem dX10_isSound_68 : decode cX10_isSound 68 = .ok (.iconst 0, 1) := by decide +kernel
theorem dX10_isSound_69 : decode cX10_isSound 69 = .ok (.ireturn, 1) := by decide +kernel
theorem dX10_isWithin_0 : decode cX10_isWithin 0 = .ok (.iload_n 0, 1) := by decide +kernel
theorem dX10_isWithin_1 : decode cX10_isWithin 1 = .ok (.iload_n 1, 1) := by decide +kernel
theorem dX10_isWithin_2 : decode cX10_isWithin 2 = .ok (.if_icmp .lt 12, 3) := by decide +kernel
theorem dX10_isWithin_5 : decode cX10_isWithin 5 = .ok (.iload_n 0, 1) := by decide +kernel
theorem dX10_isWithin_6 : decode cX10_isWithin 6 = .ok (.iload_n 2, 1) := by decide +kernel
theorem dX10_isWithin_7 : decode cX10_isWithin 7 = .ok (.if_icmp .gt 7, 3) := by decide +kernel
theorem dX10_isWithin_10 : decode cX10_isWithin 10 = .ok (.iconst 1, 1) := by decide +kernel
theorem dX10_isWithin_11 : decode cX10_isWithin 11 = .ok (.goto 4, 3) := by decide +kernel
theorem dX10_isWithin_14 : decode cX10_isWithin 14 = .ok (.iconst 0, 1) := by decide +kernel
theorem dX10_isWithin_15 : decode cX10_isWithin 15 = .ok (.ireturn, 1) := by decide +kernel
theorem dX10_isBelow_0 : decode cX10_isBelow 0 = .ok (.iload_n 0, 1) := by decide +kernel
theorem dX10_isBelow_1 : decode cX10_isBelow 1 = .ok (.ifCond .lt 12, 3) := by decide +kernel
theorem dX10_isBelow_4 : decode cX10_isBelow 4 = .ok (.iload_n 0, 1) := by decide +kernel
theorem dX10_isBelow_5 : decode cX10_isBelow 5 = .ok (.iload_n 1, 1) := by decide +kernel
theorem dX10_isBelow_6 : decode cX10_isBelow 6 = .ok (.if_icmp .ge 7, 3) := by decide +kernel
theorem dX10_isBelow_9 : decode cX10_isBelow 9 = .ok (.iconst 1, 1) := by decide +kernel
theorem dX10_isBelow_10 : decode cX10_isBelow 10 = .ok (.goto 4, 3) := by decide +kernel
theorem dX10_isBelow_13 : decode cX10_isBelow 13 = .ok (.iconst 0, 1) := by decide +kernel
theorem dX10_isBelow_14 : decode cX10_isBelow 14 = .ok (.ireturn, 1) := by decide +kernel
theorem dX10_isThing_0 : decode cX10_isThing 0 = .ok (.iload_n 0, 1) := by decide +kernel
theorem dX10_isThing_1 : decode cX10_isThing 1 = .ok (.bipush 116, 2) := by decide +kernel
theorem dX10_isThing_3 : decode cX10_isThing 3 = .ok (.if_icmp .ne 9, 3) := by decide +kernel
theorem dX10_isThing_6 : decode cX10_isThing 6 = .ok (.iload_n 1, 1) := by decide +kernel
theorem dX10_isThing_7 : decode cX10_isThing 7 = .ok (.iconst 3, 1) := by decide +kernel
theorem dX10_isThing_8 : decode cX10_isThing 8 = .ok (.invokestatic 90, 3) := by decide +kernel
theorem dX10_isThing_11 : decode cX10_isThing 11 = .ok (.ireturn, 1) := by decide +kernel
theorem dX10_isThing_12 : decode cX10_isThing 12 = .ok (.iload_n 0, 1) := by decide +kernel
theorem dX10_isThing_13 : decode cX10_isThing 13 = .ok (.bipush 115, 2) := by decide +kernel
theorem dX10_isThing_15 : decode cX10_isThing 15 = .ok (.if_icmp .ne 9, 3) := by decide +kernel
theorem dX10_isThing_18 : decode cX10_isThing 18 = .ok (.iload_n 1, 1) := by decide +kernel
theorem dX10_isThing_19 : decode cX10_isThing 19 = .ok (.iconst 3, 1) := by decide +kernel
theorem dX10_isThing_20 : decode cX10_isThing 20 = .ok (.invokestatic 90, 3) := by decide +kernel
theorem dX10_isThing_23 : decode cX10_isThing 23 = .ok (.ireturn, 1) := by decide +kernel
theorem dX10_isThing_24 : decode cX10_isThing 24 = .ok (.iload_n 0, 1) := by decide +kernel
theorem dX10_isThing_25 : decode cX10_isThing 25 = .ok (.bipush 103, 2) := by decide +kernel
theorem dX10_isThing_27 : decode cX10_isThing 27 = .ok (.if_icmp .ne 10, 3) := by decide +kernel
theorem dX10_isThing_30 : decode cX10_isThing 30 = .ok (.iload_n 1, 1) := by decide +kernel
theorem dX10_isThing_31 : decode cX10_isThing 31 = .ok (.bipush 6, 2) := by decide +kernel
theorem dX10_isThing_33 : decode cX10_isThing 33 = .ok (.invokestatic 90, 3) := by decide +kernel
theorem dX10_isThing_36 : decode cX10_isThing 36 = .ok (.ireturn, 1) := by decide +kernel
theorem dX10_isThing_37 : decode cX10_isThing 37 = .ok (.iload_n 0, 1) := by decide +kernel
theorem dX10_isThing_38 : decode cX10_isThing 38 = .ok (.bipush 119, 2) := by decide +kernel
theorem dX10_isThing_40 : decode cX10_isThing 40 = .ok (.if_icmp .eq 15, 3) := by decide +kernel
theorem dX10_isThing_43 : decode cX10_isThing 43 = .ok (.iload_n 0, 1) := by decide +kernel
theorem dX10_isThing_44 : decode cX10_isThing 44 = .ok (.bipush 108, 2) := by decide +kernel
theorem dX10_isThing_46 : decode cX10_isThing 46 = .ok (.if_icmp .eq 9, 3) := by decide +kernel
theorem dX10_isThing_49 : decode cX10_isThing 49 = .ok (.iload_n 0, 1) := by decide +kernel
theorem dX10_isThing_50 : decode cX10_isThing 50 = .ok (.bipush 98, 2) := by decide +kernel
theorem dX10_isThing_52 : decode cX10_isThing 52 = .ok (.if_icmp .ne 7, 3) := by decide +kernel
theorem dX10_isThing_55 : decode cX10_isThing 55 = .ok (.iconst 1, 1) := by decide +kernel
theorem dX10_isThing_56 : decode cX10_isThing 56 = .ok (.goto 4, 3) := by decide +kernel
theorem dX10_isThing_59 : decode cX10_isThing 59 = .ok (.iconst 0, 1) := by decide +kernel
theorem dX10_isThing_60 : decode cX10_isThing 60 = .ok (.ireturn, 1) := by decide +kernel
theorem dX10_isCountOn_0 : decode cX10_isCountOn 0 = .ok (.aload_n 0, 1) := by decide +kernel
theorem dX10_isCountOn_1 : decode cX10_isCountOn 1 = .ok (.getfield 75, 3) := by decide +kernel
theorem dX10_isCountOn_4 : decode cX10_isCountOn 4 = .ok (.getfield 306, 3) := by decide +kernel
theorem dX10_isCountOn_7 : decode cX10_isCountOn 7 = .ok (.bipush 99, 2) := by decide +kernel
theorem dX10_isCountOn_9 : decode cX10_isCountOn 9 = .ok (.if_icmp .eq 15, 3) := by decide +kernel
theorem dX10_isCountOn_12 : decode cX10_isCountOn 12 = .ok (.aload_n 0, 1) := by decide +kernel
theorem dX10_isCountOn_13 : decode cX10_isCountOn 13 = .ok (.getfield 75, 3) := by decide +kernel
theorem dX10_isCountOn_16 : decode cX10_isCountOn 16 = .ok (.getfield 306, 3) := by decide +kernel
theorem dX10_isCountOn_19 : decode cX10_isCountOn 19 = .ok (.bipush 104, 2) := by decide +kernel
theorem dX10_isCountOn_21 : decode cX10_isCountOn 21 = .ok (.if_icmp .ne 7, 3) := by decide +kernel
theorem dX10_isCountOn_24 : decode cX10_isCountOn 24 = .ok (.iconst 1, 1) := by decide +kernel
theorem dX10_isCountOn_25 : decode cX10_isCountOn 25 = .ok (.goto 4, 3) := by decide +kernel
theorem dX10_isCountOn_28 : decode cX10_isCountOn 28 = .ok (.iconst 0, 1) := by decide +kernel
theorem dX10_isCountOn_29 : decode cX10_isCountOn 29 = .ok (.ireturn, 1) := by decide +kernel
theorem dX10_hasLeft_0 : decode cX10_hasLeft 0 = .ok (.aload_n 0, 1) := by decide +kernel
theorem dX10_hasLeft_1 : decode cX10_hasLeft 1 = .ok (.getfield 75, 3) := by decide +kernel
theorem dX10_hasLeft_4 : decode cX10_hasLeft 4 = .ok (.getfield 306, 3) := by decide +kernel
theorem dX10_hasLeft_7 : decode cX10_hasLeft 7 = .ok (.bipush 102, 2) := by decide +kernel
theorem dX10_hasLeft_9 : decode cX10_hasLeft 9 = .ok (.if_icmp .eq 27, 3) := by decide +kernel
theorem dX10_hasLeft_12 : decode cX10_hasLeft 12 = .ok (.aload_n 0, 1) := by decide +kernel
theorem dX10_hasLeft_13 : decode cX10_hasLeft 13 = .ok (.getfield 75, 3) := by decide +kernel
theorem dX10_hasLeft_16 : decode cX10_hasLeft 16 = .ok (.getfield 306, 3) := by decide +kernel
theorem dX10_hasLeft_19 : decode cX10_hasLeft 19 = .ok (.bipush 120, 2) := by decide +kernel
theorem dX10_hasLeft_21 : decode cX10_hasLeft 21 = .ok (.if_icmp .eq 15, 3) := by decide +kernel
theorem dX10_hasLeft_24 : decode cX10_hasLeft 24 = .ok (.aload_n 0, 1) := by decide +kernel
theorem dX10_hasLeft_25 : decode cX10_hasLeft 25 = .ok (.getfield 75, 3) := by decide +kernel
theorem dX10_hasLeft_28 : decode cX10_hasLeft 28 = .ok (.getfield 306, 3) := by decide +kernel
theorem dX10_hasLeft_31 : decode cX10_hasLeft 31 = .ok (.bipush 111, 2) := by decide +kernel
theorem dX10_hasLeft_33 : decode cX10_hasLeft 33 = .ok (.if_icmp .ne 7, 3) := by decide +kernel
theorem dX10_hasLeft_36 : decode cX10_hasLeft 36 = .ok (.iconst 1, 1) := by decide +kernel
theorem dX10_hasLeft_37 : decode cX10_hasLeft 37 = .ok (.goto 4, 3) := by decide +kernel
theorem dX10_hasLeft_40 : decode cX10_hasLeft 40 = .ok (.iconst 0, 1) := by decide +kernel
theorem dX10_hasLeft_41 : decode cX10_hasLeft 41 = .ok (.ireturn, 1) := by decide +kernel
theorem dX10_isPlanFixed_0 : decode cX10_isPlanFixed 0 = .ok (.aload_n 0, 1) := by decide +kernel
theorem dX10_isPlanFixed_1 : decode cX10_isPlanFixed 1 = .ok (.invokevirtual 275, 3) := by decide +kernel
theorem dX10_isPlanFixed_4 : decode cX10_isPlanFixed 4 = .ok (.ifCond .ne 10, 3) := by decide +kernel
theorem dX10_isPlanFixed_7 : decode cX10_isPlanFixed 7 = .ok (.aload_n 0, 1) := by decide +kernel
theorem dX10_isPlanFixed_8 : decode cX10_isPlanFixed 8 = .ok (.invokevirtual 367, 3) := by decide +kernel
theorem dX10_isPlanFixed_11 : decode cX10_isPlanFixed 11 = .ok (.ifCond .eq 7, 3) := by decide +kernel
theorem dX10_isPlanFixed_14 : decode cX10_isPlanFixed 14 = .ok (.iconst 1, 1) := by decide +kernel
theorem dX10_isPlanFixed_15 : decode cX10_isPlanFixed 15 = .ok (.goto 4, 3) := by decide +kernel
theorem dX10_isPlanFixed_18 : decode cX10_isPlanFixed 18 = .ok (.iconst 0, 1) := by decide +kernel
theorem dX10_isPlanFixed_19 : decode cX10_isPlanFixed 19 = .ok (.ireturn, 1) := by decide +kernel
theorem dX10_isThereCause_0 : decode cX10_isThereCause 0 = .ok (.aload_n 0, 1) := by decide +kernel
theorem dX10_isThereCause_1 : decode cX10_isThereCause 1 = .ok (.getfield 75, 3) := by decide +kernel
theorem dX10_isThereCause_4 : decode cX10_isThereCause 4 = .ok (.getfield 306, 3) := by decide +kernel
theorem dX10_isThereCause_7 : decode cX10_isThereCause 7 = .ok (.bipush 104, 2) := by decide +kernel
theorem dX10_isThereCause_9 : decode cX10_isThereCause 9 = .ok (.if_icmp .eq 27, 3) := by decide +kernel
theorem dX10_isThereCause_12 : decode cX10_isThereCause 12 = .ok (.aload_n 0, 1) := by decide +kernel
theorem dX10_isThereCause_13 : decode cX10_isThereCause 13 = .ok (.getfield 75, 3) := by decide +kernel
theorem dX10_isThereCause_16 : decode cX10_isThereCause 16 = .ok (.getfield 306, 3) := by decide +kernel
theorem dX10_isThereCause_19 : decode cX10_isThereCause 19 = .ok (.bipush 115, 2) := by decide +kernel
theorem dX10_isThereCause_21 : decode cX10_isThereCause 21 = .ok (.if_icmp .eq 15, 3) := by decide +kernel
theorem dX10_isThereCause_24 : decode cX10_isThereCause 24 = .ok (.aload_n 0, 1) := by decide +kernel
theorem dX10_isThereCause_25 : decode cX10_isThereCause 25 = .ok (.getfield 75, 3) := by decide +kernel
theorem dX10_isThereCause_28 : decode cX10_isThereCause 28 = .ok (.getfield 306, 3) := by decide +kernel
theorem dX10_isThereCause_31 : decode cX10_isThereCause 31 = .ok (.bipush 120, 2) := by decide +kernel
theorem dX10_isThereCause_33 : decode cX10_isThereCause 33 = .ok (.if_icmp .ne 7, 3) := by decide +kernel
theorem dX10_isThereCause_36 : decode cX10_isThereCause 36 = .ok (.iconst 1, 1) := by decide +kernel
theorem dX10_isThereCause_37 : decode cX10_isThereCause 37 = .ok (.goto 4, 3) := by decide +kernel
theorem dX10_isThereCause_40 : decode cX10_isThereCause 40 = .ok (.iconst 0, 1) := by decide +kernel
theorem dX10_isThereCause_41 : decode cX10_isThereCause 41 = .ok (.ireturn, 1) := by decide +kernel
theorem dX10_valueFor_0 : decode cX10_valueFor 0 = .ok (.aload_n 0, 1) := by decide +kernel
theorem dX10_valueFor_1 : decode cX10_valueFor 1 = .ok (.getfield 54, 3) := by decide +kernel
theorem dX10_valueFor_4 : decode cX10_valueFor 4 = .ok (.getfield 386, 3) := by decide +kernel
theorem dX10_valueFor_7 : decode cX10_valueFor 7 = .ok (.iload_n 1, 1) := by decide +kernel
theorem dX10_valueFor_8 : decode cX10_valueFor 8 = .ok (.caload, 1) := by decide +kernel
theorem dX10_valueFor_9 : decode cX10_valueFor 9 = .ok (.istore_n 2, 1) := by decide +kernel
theorem dX10_valueFor_10 : decode cX10_valueFor 10 = .ok (.aload_n 0, 1) := by decide +kernel
theorem dX10_valueFor_11 : decode cX10_valueFor 11 = .ok (.getfield 54, 3) := by decide +kernel
theorem dX10_valueFor_14 : decode cX10_valueFor 14 = .ok (.getfield 389, 3) := by decide +kernel
theorem dX10_valueFor_17 : decode cX10_valueFor 17 = .ok (.iload_n 1, 1) := by decide +kernel
theorem dX10_valueFor_18 : decode cX10_valueFor 18 = .ok (.iaload, 1) := by decide +kernel
theorem dX10_valueFor_19 : decode cX10_valueFor 19 = .ok (.istore_n 3, 1) := by decide +kernel
theorem dX10_valueFor_20 : decode cX10_valueFor 20 = .ok (.iload_n 2, 1) := by decide +kernel
theorem dX10_valueFor_21 : decode cX10_valueFor 21 = .ok (.bipush 116, 2) := by decide +kernel
theorem dX10_valueFor_23 : decode cX10_valueFor 23 = .ok (.if_icmp .ne 13, 3) := by decide +kernel
theorem dX10_valueFor_26 : decode cX10_valueFor 26 = .ok (.aload_n 0, 1) := by decide +kernel
theorem dX10_valueFor_27 : decode cX10_valueFor 27 = .ok (.getfield 10, 3) := by decide +kernel
theorem dX10_valueFor_30 : decode cX10_valueFor 30 = .ok (.getfield 121, 3) := by decide +kernel
theorem dX10_valueFor_33 : decode cX10_valueFor 33 = .ok (.iload_n 3, 1) := by decide +kernel
theorem dX10_valueFor_34 : decode cX10_valueFor 34 = .ok (.iaload, 1) := by decide +kernel
theorem dX10_valueFor_35 : decode cX10_valueFor 35 = .ok (.ireturn, 1) := by decide +kernel
theorem dX10_valueFor_36 : decode cX10_valueFor 36 = .ok (.iload_n 2, 1) := by decide +kernel
theorem dX10_valueFor_37 : decode cX10_valueFor 37 = .ok (.bipush 115, 2) := by decide +kernel
theorem dX10_valueFor_39 : decode cX10_valueFor 39 = .ok (.if_icmp .ne 12, 3) := by decide +kernel
theorem dX10_valueFor_42 : decode cX10_valueFor 42 = .ok (.aload_n 0, 1) := by decide +kernel
theorem dX10_valueFor_43 : decode cX10_valueFor 43 = .ok (.getfield 33, 3) := by decide +kernel
theorem dX10_valueFor_46 : decode cX10_valueFor 46 = .ok (.iload_n 3, 1) := by decide +kernel
theorem dX10_valueFor_47 : decode cX10_valueFor 47 = .ok (.invokevirtual 181, 3) := by decide +kernel
theorem dX10_valueFor_50 : decode cX10_valueFor 50 = .ok (.ireturn, 1) := by decide +kernel
theorem dX10_valueFor_51 : decode cX10_valueFor 51 = .ok (.iload_n 2, 1) := by decide +kernel
theorem dX10_valueFor_52 : decode cX10_valueFor 52 = .ok (.bipush 119, 2) := by decide +kernel
theorem dX10_valueFor_54 : decode cX10_valueFor 54 = .ok (.if_icmp .ne 8, 3) := by decide +kernel
theorem dX10_valueFor_57 : decode cX10_valueFor 57 = .ok (.aload_n 0, 1) := by decide +kernel
theorem dX10_valueFor_58 : decode cX10_valueFor 58 = .ok (.getfield 83, 3) := by decide +kernel
theorem dX10_valueFor_61 : decode cX10_valueFor 61 = .ok (.ireturn, 1) := by decide +kernel
theorem dX10_valueFor_62 : decode cX10_valueFor 62 = .ok (.iload_n 2, 1) := by decide +kernel
theorem dX10_valueFor_63 : decode cX10_valueFor 63 = .ok (.bipush 108, 2) := by decide +kernel
theorem dX10_valueFor_65 : decode cX10_valueFor 65 = .ok (.if_icmp .ne 11, 3) := by decide +kernel
theorem dX10_valueFor_68 : decode cX10_valueFor 68 = .ok (.aload_n 0, 1) := by decide +kernel
theorem dX10_valueFor_69 : decode cX10_valueFor 69 = .ok (.getfield 40, 3) := by decide +kernel
theorem dX10_valueFor_72 : decode cX10_valueFor 72 = .ok (.getfield 205, 3) := by decide +kernel
theorem dX10_valueFor_75 : decode cX10_valueFor 75 = .ok (.ireturn, 1) := by decide +kernel
theorem dX10_valueFor_76 : decode cX10_valueFor 76 = .ok (.iload_n 2, 1) := by decide +kernel
theorem dX10_valueFor_77 : decode cX10_valueFor 77 = .ok (.bipush 98, 2) := by decide +kernel
theorem dX10_valueFor_79 : decode cX10_valueFor 79 = .ok (.if_icmp .ne 11, 3) := by decide +kernel
theorem dX10_valueFor_82 : decode cX10_valueFor 82 = .ok (.aload_n 0, 1) := by decide +kernel
theorem dX10_valueFor_83 : decode cX10_valueFor 83 = .ok (.getfield 47, 3) := by decide +kernel
theorem dX10_valueFor_86 : decode cX10_valueFor 86 = .ok (.invokevirtual 210, 3) := by decide +kernel
theorem dX10_valueFor_89 : decode cX10_valueFor 89 = .ok (.ireturn, 1) := by decide +kernel
theorem dX10_valueFor_90 : decode cX10_valueFor 90 = .ok (.aload_n 0, 1) := by decide +kernel
theorem dX10_valueFor_91 : decode cX10_valueFor 91 = .ok (.getfield 79, 3) := by decide +kernel
theorem dX10_valueFor_94 : decode cX10_valueFor 94 = .ok (.iload_n 3, 1) := by decide +kernel
theorem dX10_valueFor_95 : decode cX10_valueFor 95 = .ok (.baload, 1) := by decide +kernel
theorem dX10_valueFor_96 : decode cX10_valueFor 96 = .ok (.ifCond .eq 7, 3) := by decide +kernel
theorem dX10_valueFor_99 : decode cX10_valueFor 99 = .ok (.iconst 1, 1) := by decide +kernel
theorem dX10_valueFor_100 : decode cX10_valueFor 100 = .ok (.goto 4, 3) := by decide +kernel
theorem dX10_valueFor_103 : decode cX10_valueFor 103 = .ok (.iconst 0, 1) := by decide +kernel
theorem dX10_valueFor_104 : decode cX10_valueFor 104 = .ok (.ireturn, 1) := by decide +kernel
theorem dX10_isWaived_0 : decode cX10_isWaived 0 = .ok (.aload_n 0, 1) := by decide +kernel
theorem dX10_isWaived_1 : decode cX10_isWaived 1 = .ok (.getfield 75, 3) := by decide +kernel
theorem dX10_isWaived_4 : decode cX10_isWaived 4 = .ok (.getfield 306, 3) := by decide +kernel
theorem dX10_isWaived_7 : decode cX10_isWaived 7 = .ok (.bipush 45, 2) := by decide +kernel
theorem dX10_isWaived_9 : decode cX10_isWaived 9 = .ok (.if_icmp .eq 25, 3) := by decide +kernel
theorem dX10_isWaived_12 : decode cX10_isWaived 12 = .ok (.aload_n 0, 1) := by decide +kernel
theorem dX10_isWaived_13 : decode cX10_isWaived 13 = .ok (.getfield 54, 3) := by decide +kernel
theorem dX10_isWaived_16 : decode cX10_isWaived 16 = .ok (.iload_n 1, 1) := by decide +kernel
theorem dX10_isWaived_17 : decode cX10_isWaived 17 = .ok (.aload_n 0, 1) := by decide +kernel
theorem dX10_isWaived_18 : decode cX10_isWaived 18 = .ok (.getfield 61, 3) := by decide +kernel
theorem dX10_isWaived_21 : decode cX10_isWaived 21 = .ok (.getfield 278, 3) := by decide +kernel
theorem dX10_isWaived_24 : decode cX10_isWaived 24 = .ok (.invokevirtual 392, 3) := by decide +kernel
theorem dX10_isWaived_27 : decode cX10_isWaived 27 = .ok (.ifCond .eq 7, 3) := by decide +kernel
theorem dX10_isWaived_30 : decode cX10_isWaived 30 = .ok (.iconst 1, 1) := by decide +kernel
theorem dX10_isWaived_31 : decode cX10_isWaived 31 = .ok (.goto 4, 3) := by decide +kernel
theorem dX10_isWaived_34 : decode cX10_isWaived 34 = .ok (.iconst 0, 1) := by decide +kernel
theorem dX10_isWaived_35 : decode cX10_isWaived 35 = .ok (.ireturn, 1) := by decide +kernel
theorem dX10_isMetOrWaived_0 : decode cX10_isMetOrWaived 0 = .ok (.aload_n 0, 1) := by decide +kernel
theorem dX10_isMetOrWaived_1 : decode cX10_isMetOrWaived 1 = .ok (.getfield 54, 3) := by decide +kernel
theorem dX10_isMetOrWaived_4 : decode cX10_isMetOrWaived 4 = .ok (.iload_n 1, 1) := by decide +kernel
theorem dX10_isMetOrWaived_5 : decode cX10_isMetOrWaived 5 = .ok (.aload_n 0, 1) := by decide +kernel
theorem dX10_isMetOrWaived_6 : decode cX10_isMetOrWaived 6 = .ok (.iload_n 1, 1) := by decide +kernel
theorem dX10_isMetOrWaived_7 : decode cX10_isMetOrWaived 7 = .ok (.invokevirtual 249, 3) := by decide +kernel
theorem dX10_isMetOrWaived_10 : decode cX10_isMetOrWaived 10 = .ok (.invokevirtual 395, 3) := by decide +kernel
theorem dX10_isMetOrWaived_13 : decode cX10_isMetOrWaived 13 = .ok (.ifCond .ne 11, 3) := by decide +kernel
theorem dX10_isMetOrWaived_16 : decode cX10_isMetOrWaived 16 = .ok (.aload_n 0, 1) := by decide +kernel
theorem dX10_isMetOrWaived_17 : decode cX10_isMetOrWaived 17 = .ok (.iload_n 1, 1) := by decide +kernel
theorem dX10_isMetOrWaived_18 : decode cX10_isMetOrWaived 18 = .ok (.invokevirtual 240, 3) := by decide +kernel
theorem dX10_isMetOrWaived_21 : decode cX10_isMetOrWaived 21 = .ok (.ifCond .eq 7, 3) := by decide +kernel
theorem dX10_isMetOrWaived_24 : decode cX10_isMetOrWaived 24 = .ok (.iconst 1, 1) := by decide +kernel
theorem dX10_isMetOrWaived_25 : decode cX10_isMetOrWaived 25 = .ok (.goto 4, 3) := by decide +kernel
theorem dX10_isMetOrWaived_28 : decode cX10_isMetOrWaived 28 = .ok (.iconst 0, 1) := by decide +kernel
theorem dX10_isMetOrWaived_29 : decode cX10_isMetOrWaived 29 = .ok (.ireturn, 1) := by decide +kernel
theorem dX10_goThroughSecond_0 : decode cX10_goThroughSecond 0 = .ok (.aload_n 0, 1) := by decide +kernel
theorem dX10_goThroughSecond_1 : decode cX10_goThroughSecond 1 = .ok (.getfield 10, 3) := by decide +kernel
theorem dX10_goThroughSecond_4 : decode cX10_goThroughSecond 4 = .ok (.invokevirtual 398, 3) := by decide +kernel
theorem dX10_goThroughSecond_7 : decode cX10_goThroughSecond 7 = .ok (.aload_n 0, 1) := by decide +kernel
theorem dX10_goThroughSecond_8 : decode cX10_goThroughSecond 8 = .ok (.invokevirtual 275, 3) := by decide +kernel
theorem dX10_goThroughSecond_11 : decode cX10_goThroughSecond 11 = .ok (.ifCond .eq 17, 3) := by decide +kernel
theorem dX10_goThroughSecond_14 : decode cX10_goThroughSecond 14 = .ok (.aload_n 0, 1) := by decide +kernel
theorem dX10_goThroughSecond_15 : decode cX10_goThroughSecond 15 = .ok (.getfield 19, 3) := by decide +kernel
theorem dX10_goThroughSecond_18 : decode cX10_goThroughSecond 18 = .ok (.aload_n 0, 1) := by decide +kernel
theorem dX10_goThroughSecond_19 : decode cX10_goThroughSecond 19 = .ok (.getfield 61, 3) := by decide +kernel
theorem dX10_goThroughSecond_22 : decode cX10_goThroughSecond 22 = .ok (.getfield 278, 3) := by decide +kernel
theorem dX10_goThroughSecond_25 : decode cX10_goThroughSecond 25 = .ok (.invokevirtual 401, 3) := by decide +kernel
theorem dX10_goThroughSecond_28 : decode cX10_goThroughSecond 28 = .ok (.iconst 0, 1) := by decide +kernel
theorem dX10_goThroughSecond_29 : decode cX10_goThroughSecond 29 = .ok (.istore_n 1, 1) := by decide +kernel
theorem dX10_goThroughSecond_30 : decode cX10_goThroughSecond 30 = .ok (.iload_n 1, 1) := by decide +kernel
theorem dX10_goThroughSecond_31 : decode cX10_goThroughSecond 31 = .ok (.aload_n 0, 1) := by decide +kernel
theorem dX10_goThroughSecond_32 : decode cX10_goThroughSecond 32 = .ok (.getfield 54, 3) := by decide +kernel
theorem dX10_goThroughSecond_35 : decode cX10_goThroughSecond 35 = .ok (.getfield 220, 3) := by decide +kernel
theorem dX10_goThroughSecond_38 : decode cX10_goThroughSecond 38 = .ok (.if_icmp .ge 22, 3) := by decide +kernel
theorem dX10_goThroughSecond_41 : decode cX10_goThroughSecond 41 = .ok (.aload_n 0, 1) := by decide +kernel
theorem dX10_goThroughSecond_42 : decode cX10_goThroughSecond 42 = .ok (.getfield 54, 3) := by decide +kernel
theorem dX10_goThroughSecond_45 : decode cX10_goThroughSecond 45 = .ok (.iload_n 1, 1) := by decide +kernel
theorem dX10_goThroughSecond_46 : decode cX10_goThroughSecond 46 = .ok (.aload_n 0, 1) := by decide +kernel
theorem dX10_goThroughSecond_47 : decode cX10_goThroughSecond 47 = .ok (.iload_n 1, 1) := by decide +kernel
theorem dX10_goThroughSecond_48 : decode cX10_goThroughSecond 48 = .ok (.invokevirtual 249, 3) := by decide +kernel
theorem dX10_goThroughSecond_51 : decode cX10_goThroughSecond 51 = .ok (.invokevirtual 404, 3) := by decide +kernel
theorem dX10_goThroughSecond_54 : decode cX10_goThroughSecond 54 = .ok (.iinc 1 1, 3) := by decide +kernel
theorem dX10_goThroughSecond_57 : decode cX10_goThroughSecond 57 = .ok (.goto (-27), 3) := by decide +kernel
theorem dX10_goThroughSecond_60 : decode cX10_goThroughSecond 60 = .ok (.aload_n 0, 1) := by decide +kernel
theorem dX10_goThroughSecond_61 : decode cX10_goThroughSecond 61 = .ok (.invokevirtual 275, 3) := by decide +kernel
theorem dX10_goThroughSecond_64 : decode cX10_goThroughSecond 64 = .ok (.ifCond .eq 10, 3) := by decide +kernel
theorem dX10_goThroughSecond_67 : decode cX10_goThroughSecond 67 = .ok (.aload_n 0, 1) := by decide +kernel
theorem dX10_goThroughSecond_68 : decode cX10_goThroughSecond 68 = .ok (.invokevirtual 408, 3) := by decide +kernel
theorem dX10_goThroughSecond_71 : decode cX10_goThroughSecond 71 = .ok (.goto 14, 3) := by decide +kernel
theorem dX10_goThroughSecond_74 : decode cX10_goThroughSecond 74 = .ok (.aload_n 0, 1) := by decide +kernel
theorem dX10_goThroughSecond_75 : decode cX10_goThroughSecond 75 = .ok (.invokevirtual 367, 3) := by decide +kernel
theorem dX10_goThroughSecond_78 : decode cX10_goThroughSecond 78 = .ok (.ifCond .eq 7, 3) := by decide +kernel
theorem dX10_goThroughSecond_81 : decode cX10_goThroughSecond 81 = .ok (.aload_n 0, 1) := by decide +kernel
theorem dX10_goThroughSecond_82 : decode cX10_goThroughSecond 82 = .ok (.invokevirtual 411, 3) := by decide +kernel
theorem dX10_goThroughSecond_85 : decode cX10_goThroughSecond 85 = .ok (.aload_n 0, 1) := by decide +kernel
theorem dX10_goThroughSecond_86 : decode cX10_goThroughSecond 86 = .ok (.dup, 1) := by decide +kernel
theorem dX10_goThroughSecond_87 : decode cX10_goThroughSecond 87 = .ok (.getfield 87, 3) := by decide +kernel
theorem dX10_goThroughSecond_90 : decode cX10_goThroughSecond 90 = .ok (.iconst 1, 1) := by decide +kernel
theorem dX10_goThroughSecond_91 : decode cX10_goThroughSecond 91 = .ok (.iadd, 1) := by decide +kernel
theorem dX10_goThroughSecond_92 : decode cX10_goThroughSecond 92 = .ok (.putfield 87, 3) := by decide +kernel
theorem dX10_goThroughSecond_95 : decode cX10_goThroughSecond 95 = .ok (.aload_n 0, 1) := by decide +kernel
theorem dX10_goThroughSecond_96 : decode cX10_goThroughSecond 96 = .ok (.getfield 40, 3) := by decide +kernel
theorem dX10_goThroughSecond_99 : decode cX10_goThroughSecond 99 = .ok (.aload_n 0, 1) := by decide +kernel
theorem dX10_goThroughSecond_100 : decode cX10_goThroughSecond 100 = .ok (.getfield 87, 3) := by decide +kernel
theorem dX10_goThroughSecond_103 : decode cX10_goThroughSecond 103 = .ok (.invokevirtual 414, 3) := by decide +kernel
theorem dX10_goThroughSecond_106 : decode cX10_goThroughSecond 106 = .ok (.return_, 1) := by decide +kernel
theorem dX10_countOn_0 : decode cX10_countOn 0 = .ok (.aload_n 0, 1) := by decide +kernel
theorem dX10_countOn_1 : decode cX10_countOn 1 = .ok (.getfield 54, 3) := by decide +kernel
theorem dX10_countOn_4 : decode cX10_countOn 4 = .ok (.aload_n 0, 1) := by decide +kernel
theorem dX10_countOn_5 : decode cX10_countOn 5 = .ok (.getfield 61, 3) := by decide +kernel
theorem dX10_countOn_8 : decode cX10_countOn 8 = .ok (.getfield 278, 3) := by decide +kernel
theorem dX10_countOn_11 : decode cX10_countOn 11 = .ok (.invokevirtual 417, 3) := by decide +kernel
theorem dX10_countOn_14 : decode cX10_countOn 14 = .ok (.istore_n 1, 1) := by decide +kernel
theorem dX10_countOn_15 : decode cX10_countOn 15 = .ok (.iload_n 1, 1) := by decide +kernel
theorem dX10_countOn_16 : decode cX10_countOn 16 = .ok (.iconst (-1), 1) := by decide +kernel
theorem dX10_countOn_17 : decode cX10_countOn 17 = .ok (.if_icmp .eq 20, 3) := by decide +kernel
theorem dX10_countOn_20 : decode cX10_countOn 20 = .ok (.aload_n 0, 1) := by decide +kernel
theorem dX10_countOn_21 : decode cX10_countOn 21 = .ok (.aload_n 0, 1) := by decide +kernel
theorem dX10_countOn_22 : decode cX10_countOn 22 = .ok (.getfield 54, 3) := by decide +kernel
theorem dX10_countOn_25 : decode cX10_countOn 25 = .ok (.getfield 386, 3) := by decide +kernel
theorem dX10_countOn_28 : decode cX10_countOn 28 = .ok (.iload_n 1, 1) := by decide +kernel
theorem dX10_countOn_29 : decode cX10_countOn 29 = .ok (.caload, 1) := by decide +kernel
theorem dX10_countOn_30 : decode cX10_countOn 30 = .ok (.iload_n 1, 1) := by decide +kernel
theorem dX10_countOn_31 : decode cX10_countOn 31 = .ok (.invokevirtual 420, 3) := by decide +kernel
theorem dX10_countOn_34 : decode cX10_countOn 34 = .ok (.goto 82, 3) := by decide +kernel
theorem dX10_countOn_37 : decode cX10_countOn 37 = .ok (.aload_n 0, 1) := by decide +kernel
theorem dX10_countOn_38 : decode cX10_countOn 38 = .ok (.getfield 26, 3) := by decide +kernel
theorem dX10_countOn_41 : decode cX10_countOn 41 = .ok (.aload_n 0, 1) := by decide +kernel
theorem dX10_countOn_42 : decode cX10_countOn 42 = .ok (.getfield 61, 3) := by decide +kernel
theorem dX10_countOn_45 : decode cX10_countOn 45 = .ok (.getfield 278, 3) := by decide +kernel
theorem dX10_countOn_48 : decode cX10_countOn 48 = .ok (.aload_n 0, 1) := by decide +kernel
theorem dX10_countOn_49 : decode cX10_countOn 49 = .ok (.getfield 61, 3) := by decide +kernel
theorem dX10_countOn_52 : decode cX10_countOn 52 = .ok (.getfield 423, 3) := by decide +kernel
theorem dX10_countOn_55 : decode cX10_countOn 55 = .ok (.aload_n 0, 1) := by decide +kernel
theorem dX10_countOn_56 : decode cX10_countOn 56 = .ok (.getfield 19, 3) := by decide +kernel
theorem dX10_countOn_59 : decode cX10_countOn 59 = .ok (.invokevirtual 426, 3) := by decide +kernel
theorem dX10_countOn_62 : decode cX10_countOn 62 = .ok (.ifCond .eq 13, 3) := by decide +kernel
theorem dX10_countOn_65 : decode cX10_countOn 65 = .ok (.aload_n 0, 1) := by decide +kernel
theorem dX10_countOn_66 : decode cX10_countOn 66 = .ok (.bipush 109, 2) := by decide +kernel
theorem dX10_countOn_68 : decode cX10_countOn 68 = .ok (.iconst (-1), 1) := by decide +kernel
theorem dX10_countOn_69 : decode cX10_countOn 69 = .ok (.invokevirtual 420, 3) := by decide +kernel
theorem dX10_countOn_72 : decode cX10_countOn 72 = .ok (.goto 44, 3) := by decide +kernel
theorem dX10_countOn_75 : decode cX10_countOn 75 = .ok (.aload_n 0, 1) := by decide +kernel
theorem dX10_countOn_76 : decode cX10_countOn 76 = .ok (.getfield 61, 3) := by decide +kernel
theorem dX10_countOn_79 : decode cX10_countOn 79 = .ok (.getfield 278, 3) := by decide +kernel
theorem dX10_countOn_82 : decode cX10_countOn 82 = .ok (.iconst (-1), 1) := by decide +kernel
theorem dX10_countOn_83 : decode cX10_countOn 83 = .ok (.if_icmp .ne 29, 3) := by decide +kernel
theorem dX10_countOn_86 : decode cX10_countOn 86 = .ok (.aload_n 0, 1) := by decide +kernel
theorem dX10_countOn_87 : decode cX10_countOn 87 = .ok (.getfield 87, 3) := by decide +kernel
theorem dX10_countOn_90 : decode cX10_countOn 90 = .ok (.iconst 1, 1) := by decide +kernel
theorem dX10_countOn_91 : decode cX10_countOn 91 = .ok (.iadd, 1) := by decide +kernel
theorem dX10_countOn_92 : decode cX10_countOn 92 = .ok (.aload_n 0, 1) := by decide +kernel
theorem dX10_countOn_93 : decode cX10_countOn 93 = .ok (.getfield 61, 3) := by decide +kernel
theorem dX10_countOn_96 : decode cX10_countOn 96 = .ok (.getfield 430, 3) := by decide +kernel
theorem dX10_countOn_99 : decode cX10_countOn 99 = .ok (.if_icmp .ge 13, 3) := by decide +kernel
theorem dX10_countOn_102 : decode cX10_countOn 102 = .ok (.aload_n 0, 1) := by decide +kernel
theorem dX10_countOn_103 : decode cX10_countOn 103 = .ok (.bipush 111, 2) := by decide +kernel
theorem dX10_countOn_105 : decode cX10_countOn 105 = .ok (.iconst (-1), 1) := by decide +kernel
theorem dX10_countOn_106 : decode cX10_countOn 106 = .ok (.invokevirtual 420, 3) := by decide +kernel
theorem dX10_countOn_109 : decode cX10_countOn 109 = .ok (.goto 7, 3) := by decide +kernel
theorem dX10_countOn_112 : decode cX10_countOn 112 = .ok (.aload_n 0, 1) := by decide +kernel
theorem dX10_countOn_113 : decode cX10_countOn 113 = .ok (.invokevirtual 433, 3) := by decide +kernel
theorem dX10_countOn_116 : decode cX10_countOn 116 = .ok (.aload_n 0, 1) := by decide +kernel
theorem dX10_countOn_117 : decode cX10_countOn 117 = .ok (.invokevirtual 275, 3) := by decide +kernel
theorem dX10_countOn_120 : decode cX10_countOn 120 = .ok (.ifCond .eq 49, 3) := by decide +kernel
theorem dX10_countOn_123 : decode cX10_countOn 123 = .ok (.aload_n 0, 1) := by decide +kernel
theorem dX10_countOn_124 : decode cX10_countOn 124 = .ok (.getfield 87, 3) := by decide +kernel
theorem dX10_countOn_127 : decode cX10_countOn 127 = .ok (.iconst 1, 1) := by decide +kernel
theorem dX10_countOn_128 : decode cX10_countOn 128 = .ok (.iadd, 1) := by decide +kernel
theorem dX10_countOn_129 : decode cX10_countOn 129 = .ok (.aload_n 0, 1) := by decide +kernel
theorem dX10_countOn_130 : decode cX10_countOn 130 = .ok (.getfield 61, 3) := by decide +kernel
theorem dX10_countOn_133 : decode cX10_countOn 133 = .ok (.getfield 278, 3) := by decide +kernel
theorem dX10_countOn_136 : decode cX10_countOn 136 = .ok (.isub, 1) := by decide +kernel
theorem dX10_countOn_137 : decode cX10_countOn 137 = .ok (.aload_n 0, 1) := by decide +kernel
theorem dX10_countOn_138 : decode cX10_countOn 138 = .ok (.getfield 61, 3) := by decide +kernel
theorem dX10_countOn_141 : decode cX10_countOn 141 = .ok (.getfield 436, 3) := by decide +kernel
theorem dX10_countOn_144 : decode cX10_countOn 144 = .ok (.if_icmp .le 25, 3) := by decide +kernel
theorem dX10_countOn_147 : decode cX10_countOn 147 = .ok (.aload_n 0, 1) := by decide +kernel
theorem dX10_countOn_148 : decode cX10_countOn 148 = .ok (.getfield 61, 3) := by decide +kernel
theorem dX10_countOn_151 : decode cX10_countOn 151 = .ok (.invokevirtual 439, 3) := by decide +kernel
theorem dX10_countOn_154 : decode cX10_countOn 154 = .ok (.aload_n 0, 1) := by decide +kernel
theorem dX10_countOn_155 : decode cX10_countOn 155 = .ok (.getfield 75, 3) := by decide +kernel
theorem dX10_countOn_158 : decode cX10_countOn 158 = .ok (.aload_n 0, 1) := by decide +kernel
theorem dX10_countOn_159 : decode cX10_countOn 159 = .ok (.getfield 87, 3) := by decide +kernel
theorem dX10_countOn_162 : decode cX10_countOn 162 = .ok (.bipush 83, 2) := by decide +kernel
theorem dX10_countOn_164 : decode cX10_countOn 164 = .ok (.bipush 115, 2) := by decide +kernel
theorem dX10_countOn_166 : decode cX10_countOn 166 = .ok (.invokevirtual 269, 3) := by decide +kernel
theorem dX10_countOn_169 : decode cX10_countOn 169 = .ok (.return_, 1) := by decide +kernel
theorem dX10_hold_0 : decode cX10_hold 0 = .ok (.aload_n 0, 1) := by decide +kernel
theorem dX10_hold_1 : decode cX10_hold 1 = .ok (.getfield 61, 3) := by decide +kernel
theorem dX10_hold_4 : decode cX10_hold 4 = .ok (.iload_n 1, 1) := by decide +kernel
theorem dX10_hold_5 : decode cX10_hold 5 = .ok (.iload_n 2, 1) := by decide +kernel
theorem dX10_hold_6 : decode cX10_hold 6 = .ok (.invokevirtual 442, 3) := by decide +kernel
theorem dX10_hold_9 : decode cX10_hold 9 = .ok (.aload_n 0, 1) := by decide +kernel
theorem dX10_hold_10 : decode cX10_hold 10 = .ok (.getfield 75, 3) := by decide +kernel
theorem dX10_hold_13 : decode cX10_hold 13 = .ok (.getfield 306, 3) := by decide +kernel
theorem dX10_hold_16 : decode cX10_hold 16 = .ok (.bipush 99, 2) := by decide +kernel
theorem dX10_hold_18 : decode cX10_hold 18 = .ok (.if_icmp .ne 18, 3) := by decide +kernel
theorem dX10_hold_21 : decode cX10_hold 21 = .ok (.aload_n 0, 1) := by decide +kernel
theorem dX10_hold_22 : decode cX10_hold 22 = .ok (.getfield 75, 3) := by decide +kernel
theorem dX10_hold_25 : decode cX10_hold 25 = .ok (.aload_n 0, 1) := by decide +kernel
theorem dX10_hold_26 : decode cX10_hold 26 = .ok (.getfield 87, 3) := by decide +kernel
theorem dX10_hold_29 : decode cX10_hold 29 = .ok (.bipush 72, 2) := by decide +kernel
theorem dX10_hold_31 : decode cX10_hold 31 = .ok (.bipush 104, 2) := by decide +kernel
theorem dX10_hold_33 : decode cX10_hold 33 = .ok (.invokevirtual 269, 3) := by decide +kernel
theorem dX10_hold_36 : decode cX10_hold 36 = .ok (.return_, 1) := by decide +kernel
theorem dX10_goFurther_0 : decode cX10_goFurther 0 = .ok (.aload_n 0, 1) := by decide +kernel
theorem dX10_goFurther_1 : decode cX10_goFurther 1 = .ok (.getfield 75, 3) := by decide +kernel
theorem dX10_goFurther_4 : decode cX10_goFurther 4 = .ok (.getfield 306, 3) := by decide +kernel
theorem dX10_goFurther_7 : decode cX10_goFurther 7 = .ok (.bipush 104, 2) := by decide +kernel
theorem dX10_goFurther_9 : decode cX10_goFurther 9 = .ok (.if_icmp .ne 18, 3) := by decide +kernel
theorem dX10_goFurther_12 : decode cX10_goFurther 12 = .ok (.aload_n 0, 1) := by decide +kernel
theorem dX10_goFurther_13 : decode cX10_goFurther 13 = .ok (.getfield 75, 3) := by decide +kernel
theorem dX10_goFurther_16 : decode cX10_goFurther 16 = .ok (.aload_n 0, 1) := by decide +kernel
theorem dX10_goFurther_17 : decode cX10_goFurther 17 = .ok (.getfield 87, 3) := by decide +kernel
theorem dX10_goFurther_20 : decode cX10_goFurther 20 = .ok (.bipush 71, 2) := by decide +kernel
theorem dX10_goFurther_22 : decode cX10_goFurther 22 = .ok (.bipush 99, 2) := by decide +kernel
theorem dX10_goFurther_24 : decode cX10_goFurther 24 = .ok (.invokevirtual 269, 3) := by decide +kernel
theorem dX10_goFurther_27 : decode cX10_goFurther 27 = .ok (.aload_n 0, 1) := by decide +kernel
theorem dX10_goFurther_28 : decode cX10_goFurther 28 = .ok (.getfield 54, 3) := by decide +kernel
theorem dX10_goFurther_31 : decode cX10_goFurther 31 = .ok (.aload_n 0, 1) := by decide +kernel
theorem dX10_goFurther_32 : decode cX10_goFurther 32 = .ok (.getfield 61, 3) := by decide +kernel
theorem dX10_goFurther_35 : decode cX10_goFurther 35 = .ok (.getfield 278, 3) := by decide +kernel
theorem dX10_goFurther_38 : decode cX10_goFurther 38 = .ok (.invokevirtual 445, 3) := by decide +kernel
theorem dX10_goFurther_41 : decode cX10_goFurther 41 = .ok (.istore_n 1, 1) := by decide +kernel
theorem dX10_goFurther_42 : decode cX10_goFurther 42 = .ok (.aload_n 0, 1) := by decide +kernel
theorem dX10_goFurther_43 : decode cX10_goFurther 43 = .ok (.getfield 61, 3) := by decide +kernel
theorem dX10_goFurther_46 : decode cX10_goFurther 46 = .ok (.invokevirtual 448, 3) := by decide +kernel
theorem dX10_goFurther_49 : decode cX10_goFurther 49 = .ok (.aload_n 0, 1) := by decide +kernel
theorem dX10_goFurther_50 : decode cX10_goFurther 50 = .ok (.getfield 61, 3) := by decide +kernel
theorem dX10_goFurther_53 : decode cX10_goFurther 53 = .ok (.getfield 278, 3) := by decide +kernel
theorem dX10_goFurther_56 : decode cX10_goFurther 56 = .ok (.ifCond .ne 48, 3) := by decide +kernel
theorem dX10_goFurther_59 : decode cX10_goFurther 59 = .ok (.aload_n 0, 1) := by decide +kernel
theorem dX10_goFurther_60 : decode cX10_goFurther 60 = .ok (.getfield 61, 3) := by decide +kernel
theorem dX10_goFurther_63 : decode cX10_goFurther 63 = .ok (.aload_n 0, 1) := by decide +kernel
theorem dX10_goFurther_64 : decode cX10_goFurther 64 = .ok (.getfield 87, 3) := by decide +kernel
theorem dX10_goFurther_67 : decode cX10_goFurther 67 = .ok (.iconst 1, 1) := by decide +kernel
theorem dX10_goFurther_68 : decode cX10_goFurther 68 = .ok (.iadd, 1) := by decide +kernel
theorem dX10_goFurther_69 : decode cX10_goFurther 69 = .ok (.invokevirtual 377, 3) := by decide +kernel
theorem dX10_goFurther_72 : decode cX10_goFurther 72 = .ok (.ifCond .eq 32, 3) := by decide +kernel
theorem dX10_goFurther_75 : decode cX10_goFurther 75 = .ok (.aload_n 0, 1) := by decide +kernel
theorem dX10_goFurther_76 : decode cX10_goFurther 76 = .ok (.getfield 68, 3) := by decide +kernel
theorem dX10_goFurther_79 : decode cX10_goFurther 79 = .ok (.aload_n 0, 1) := by decide +kernel
theorem dX10_goFurther_80 : decode cX10_goFurther 80 = .ok (.getfield 87, 3) := by decide +kernel
theorem dX10_goFurther_83 : decode cX10_goFurther 83 = .ok (.iconst 1, 1) := by decide +kernel
theorem dX10_goFurther_84 : decode cX10_goFurther 84 = .ok (.iadd, 1) := by decide +kernel
theorem dX10_goFurther_85 : decode cX10_goFurther 85 = .ok (.iload_n 1, 1) := by decide +kernel
theorem dX10_goFurther_86 : decode cX10_goFurther 86 = .ok (.invokevirtual 451, 3) := by decide +kernel
theorem dX10_goFurther_89 : decode cX10_goFurther 89 = .ok (.aload_n 0, 1) := by decide +kernel
theorem dX10_goFurther_90 : decode cX10_goFurther 90 = .ok (.getfield 75, 3) := by decide +kernel
theorem dX10_goFurther_93 : decode cX10_goFurther 93 = .ok (.aload_n 0, 1) := by decide +kernel
theorem dX10_goFurther_94 : decode cX10_goFurther 94 = .ok (.getfield 87, 3) := by decide +kernel
theorem dX10_goFurther_97 : decode cX10_goFurther 97 = .ok (.bipush 70, 2) := by decide +kernel
theorem dX10_goFurther_99 : decode cX10_goFurther 99 = .ok (.bipush 102, 2) := by decide +kernel
theorem dX10_goFurther_101 : decode cX10_goFurther 101 = .ok (.invokevirtual 269, 3) := by decide +kernel
theorem dX10_goFurther_104 : decode cX10_goFurther 104 = .ok (.return_, 1) := by decide +kernel
theorem dX10_flyOn_0 : decode cX10_flyOn 0 = .ok (.aload_n 0, 1) := by decide +kernel
theorem dX10_flyOn_1 : decode cX10_flyOn 1 = .ok (.getfield 61, 3) := by decide +kernel
theorem dX10_flyOn_4 : decode cX10_flyOn 4 = .ok (.dup, 1) := by decide +kernel
theorem dX10_flyOn_5 : decode cX10_flyOn 5 = .ok (.getfield 278, 3) := by decide +kernel
theorem dX10_flyOn_8 : decode cX10_flyOn 8 = .ok (.iconst 1, 1) := by decide +kernel
theorem dX10_flyOn_9 : decode cX10_flyOn 9 = .ok (.iadd, 1) := by decide +kernel
theorem dX10_flyOn_10 : decode cX10_flyOn 10 = .ok (.putfield 278, 3) := by decide +kernel
theorem dX10_flyOn_13 : decode cX10_flyOn 13 = .ok (.aload_n 0, 1) := by decide +kernel
theorem dX10_flyOn_14 : decode cX10_flyOn 14 = .ok (.getfield 75, 3) := by decide +kernel
theorem dX10_flyOn_17 : decode cX10_flyOn 17 = .ok (.getfield 306, 3) := by decide +kernel
theorem dX10_flyOn_20 : decode cX10_flyOn 20 = .ok (.bipush 102, 2) := by decide +kernel
theorem dX10_flyOn_22 : decode cX10_flyOn 22 = .ok (.if_icmp .eq 4, 3) := by decide +kernel
theorem dX10_flyOn_25 : decode cX10_flyOn 25 = .ok (.return_, 1) := by decide +kernel
theorem dX10_flyOn_26 : decode cX10_flyOn 26 = .ok (.aload_n 0, 1) := by decide +kernel
theorem dX10_flyOn_27 : decode cX10_flyOn 27 = .ok (.getfield 68, 3) := by decide +kernel
theorem dX10_flyOn_30 : decode cX10_flyOn 30 = .ok (.invokevirtual 455, 3) := by decide +kernel
theorem dX10_flyOn_33 : decode cX10_flyOn 33 = .ok (.aload_n 0, 1) := by decide +kernel
theorem dX10_flyOn_34 : decode cX10_flyOn 34 = .ok (.getfield 68, 3) := by decide +kernel
theorem dX10_flyOn_37 : decode cX10_flyOn 37 = .ok (.invokevirtual 458, 3) := by decide +kernel
theorem dX10_flyOn_40 : decode cX10_flyOn 40 = .ok (.ifCond .eq 12, 3) := by decide +kernel
theorem dX10_flyOn_43 : decode cX10_flyOn 43 = .ok (.aload_n 0, 1) := by decide +kernel
theorem dX10_flyOn_44 : decode cX10_flyOn 44 = .ok (.bipush 100, 2) := by decide +kernel
theorem dX10_flyOn_46 : decode cX10_flyOn 46 = .ok (.invokevirtual 461, 3) := by decide +kernel
theorem dX10_flyOn_49 : decode cX10_flyOn 49 = .ok (.goto 50, 3) := by decide +kernel
theorem dX10_flyOn_52 : decode cX10_flyOn 52 = .ok (.aload_n 0, 1) := by decide +kernel
theorem dX10_flyOn_53 : decode cX10_flyOn 53 = .ok (.getfield 68, 3) := by decide +kernel
theorem dX10_flyOn_56 : decode cX10_flyOn 56 = .ok (.getfield 465, 3) := by decide +kernel
theorem dX10_flyOn_59 : decode cX10_flyOn 59 = .ok (.iconst 3, 1) := by decide +kernel
theorem dX10_flyOn_60 : decode cX10_flyOn 60 = .ok (.if_icmp .lt 12, 3) := by decide +kernel
theorem dX10_flyOn_63 : decode cX10_flyOn 63 = .ok (.aload_n 0, 1) := by decide +kernel
theorem dX10_flyOn_64 : decode cX10_flyOn 64 = .ok (.bipush 114, 2) := by decide +kernel
theorem dX10_flyOn_66 : decode cX10_flyOn 66 = .ok (.invokevirtual 461, 3) := by decide +kernel
theorem dX10_flyOn_69 : decode cX10_flyOn 69 = .ok (.goto 30, 3) := by decide +kernel
theorem dX10_flyOn_72 : decode cX10_flyOn 72 = .ok (.aload_n 0, 1) := by decide +kernel
theorem dX10_flyOn_73 : decode cX10_flyOn 73 = .ok (.getfield 61, 3) := by decide +kernel
theorem dX10_flyOn_76 : decode cX10_flyOn 76 = .ok (.getfield 278, 3) := by decide +kernel
theorem dX10_flyOn_79 : decode cX10_flyOn 79 = .ok (.bipush 60, 2) := by decide +kernel
theorem dX10_flyOn_81 : decode cX10_flyOn 81 = .ok (.if_icmp .lt 18, 3) := by decide +kernel
theorem dX10_flyOn_84 : decode cX10_flyOn 84 = .ok (.aload_n 0, 1) := by decide +kernel
theorem dX10_flyOn_85 : decode cX10_flyOn 85 = .ok (.getfield 75, 3) := by decide +kernel
theorem dX10_flyOn_88 : decode cX10_flyOn 88 = .ok (.aload_n 0, 1) := by decide +kernel
theorem dX10_flyOn_89 : decode cX10_flyOn 89 = .ok (.getfield 87, 3) := by decide +kernel
theorem dX10_flyOn_92 : decode cX10_flyOn 92 = .ok (.bipush 79, 2) := by decide +kernel
theorem dX10_flyOn_94 : decode cX10_flyOn 94 = .ok (.bipush 111, 2) := by decide +kernel
theorem dX10_flyOn_96 : decode cX10_flyOn 96 = .ok (.invokevirtual 269, 3) := by decide +kernel
theorem dX10_flyOn_99 : decode cX10_flyOn 99 = .ok (.return_, 1) := by decide +kernel
theorem dX10_destroy_0 : decode cX10_destroy 0 = .ok (.aload_n 0, 1) := by decide +kernel
theorem dX10_destroy_1 : decode cX10_destroy 1 = .ok (.getfield 61, 3) := by decide +kernel
theorem dX10_destroy_4 : decode cX10_destroy 4 = .ok (.iload_n 1, 1) := by decide +kernel
theorem dX10_destroy_5 : decode cX10_destroy 5 = .ok (.iconst (-1), 1) := by decide +kernel
theorem dX10_destroy_6 : decode cX10_destroy 6 = .ok (.invokevirtual 292, 3) := by decide +kernel
theorem dX10_destroy_9 : decode cX10_destroy 9 = .ok (.aload_n 0, 1) := by decide +kernel
theorem dX10_destroy_10 : decode cX10_destroy 10 = .ok (.getfield 75, 3) := by decide +kernel
theorem dX10_destroy_13 : decode cX10_destroy 13 = .ok (.aload_n 0, 1) := by decide +kernel
theorem dX10_destroy_14 : decode cX10_destroy 14 = .ok (.getfield 87, 3) := by decide +kernel
theorem dX10_destroy_17 : decode cX10_destroy 17 = .ok (.bipush 88, 2) := by decide +kernel
theorem dX10_destroy_19 : decode cX10_destroy 19 = .ok (.bipush 120, 2) := by decide +kernel
theorem dX10_destroy_21 : decode cX10_destroy 21 = .ok (.invokevirtual 269, 3) := by decide +kernel
theorem dX10_destroy_24 : decode cX10_destroy 24 = .ok (.return_, 1) := by decide +kernel
theorem dJ5_init_d00df_0 : decode cJ5_init_d00df 0 = .ok (.aload_n 0, 1) := by decide +kernel
theorem dJ5_init_d00df_1 : decode cJ5_init_d00df 1 = .ok (.invokespecial 3, 3) := by decide +kernel
theorem dJ5_init_d00df_4 : decode cJ5_init_d00df 4 = .ok (.getstatic 18, 3) := by decide +kernel
theorem dJ5_init_d00df_7 : decode cJ5_init_d00df 7 = .ok (.ifCond .eq 18, 3) := by decide +kernel
theorem dJ5_init_d00df_10 : decode cJ5_init_d00df 10 = .ok (.aload_n 0, 1) := by decide +kernel
theorem dJ5_init_d00df_11 : decode cJ5_init_d00df 11 = .ok (.iload_n 1, 1) := by decide +kernel
theorem dJ5_init_d00df_12 : decode cJ5_init_d00df 12 = .ok (.newarray .byte, 2) := by decide +kernel
theorem dJ5_init_d00df_14 : decode cJ5_init_d00df 14 = .ok (.putfield 15, 3) := by decide +kernel
theorem dJ5_init_d00df_17 : decode cJ5_init_d00df 17 = .ok (.aload_n 0, 1) := by decide +kernel
theorem dJ5_init_d00df_18 : decode cJ5_init_d00df 18 = .ok (.iconst 0, 1) := by decide +kernel
theorem dJ5_init_d00df_19 : decode cJ5_init_d00df 19 = .ok (.putfield 22, 3) := by decide +kernel
theorem dJ5_init_d00df_22 : decode cJ5_init_d00df 22 = .ok (.goto 16, 3) := by decide +kernel
theorem dJ5_init_d00df_25 : decode cJ5_init_d00df 25 = .ok (.aload_n 0, 1) := by decide +kernel
theorem dJ5_init_d00df_26 : decode cJ5_init_d00df 26 = .ok (.iload_n 1, 1) := by decide +kernel
theorem dJ5_init_d00df_27 : decode cJ5_init_d00df 27 = .ok (.invokestatic 26, 3) := by decide +kernel
theorem dJ5_init_d00df_30 : decode cJ5_init_d00df 30 = .ok (.putfield 15, 3) := by decide +kernel
theorem dJ5_init_d00df_33 : decode cJ5_init_d00df 33 = .ok (.aload_n 0, 1) := by decide +kernel
theorem dJ5_init_d00df_34 : decode cJ5_init_d00df 34 = .ok (.iconst 1, 1) := by decide +kernel
theorem dJ5_init_d00df_35 : decode cJ5_init_d00df 35 = .ok (.putfield 22, 3) := by decide +kernel
theorem dJ5_init_d00df_38 : decode cJ5_init_d00df 38 = .ok (.return_, 1) := by decide +kernel
theorem dJ5_length_8abf5_0 : decode cJ5_length_8abf5 0 = .ok (.aload_n 0, 1) := by decide +kernel
theorem dJ5_length_8abf5_1 : decode cJ5_length_8abf5 1 = .ok (.getfield 79, 3) := by decide +kernel
theorem dJ5_length_8abf5_4 : decode cJ5_length_8abf5 4 = .ok (.ireturn, 1) := by decide +kernel
theorem dJ5_ensureCapacityInternal_d00df_0 : decode cJ5_ensureCapacityInternal_d00df 0 = .ok (.aload_n 0, 1) := by decide +kernel
theorem dJ5_ensureCapacityInternal_d00df_1 : decode cJ5_ensureCapacityInternal_d00df 1 = .ok (.getfield 15, 3) := by decide +kernel
theorem dJ5_ensureCapacityInternal_d00df_4 : decode cJ5_ensureCapacityInternal_d00df 4 = .ok (.arraylength, 1) := by decide +kernel
theorem dJ5_ensureCapacityInternal_d00df_5 : decode cJ5_ensureCapacityInternal_d00df 5 = .ok (.aload_n 0, 1) := by decide +kernel
theorem dJ5_ensureCapacityInternal_d00df_6 : decode cJ5_ensureCapacityInternal_d00df 6 = .ok (.getfield 22, 3) := by decide +kernel
theorem dJ5_ensureCapacityInternal_d00df_9 : decode cJ5_ensureCapacityInternal_d00df 9 = .ok (.ishr, 1) := by decide +kernel
theorem dJ5_ensureCapacityInternal_d00df_10 : decode cJ5_ensureCapacityInternal_d00df 10 = .ok (.istore_n 2, 1) := by decide +kernel
theorem dJ5_ensureCapacityInternal_d00df_11 : decode cJ5_ensureCapacityInternal_d00df 11 = .ok (.iload_n 1, 1) := by decide +kernel
theorem dJ5_ensureCapacityInternal_d00df_12 : decode cJ5_ensureCapacityInternal_d00df 12 = .ok (.iload_n 2, 1) := by decide +kernel
theorem dJ5_ensureCapacityInternal_d00df_13 : decode cJ5_ensureCapacityInternal_d00df 13 = .ok (.isub, 1) := by decide +kernel
theorem dJ5_ensureCapacityInternal_d00df_14 : decode cJ5_ensureCapacityInternal_d00df 14 = .ok (.ifCond .le 24, 3) := by decide +kernel
theorem dJ5_ensureCapacityInternal_d00df_17 : decode cJ5_ensureCapacityInternal_d00df 17 = .ok (.aload_n 0, 1) := by decide +kernel
theorem dJ5_ensureCapacityInternal_d00df_18 : decode cJ5_ensureCapacityInternal_d00df 18 = .ok (.aload_n 0, 1) := by decide +kernel
theorem dJ5_ensureCapacityInternal_d00df_19 : decode cJ5_ensureCapacityInternal_d00df 19 = .ok (.getfield 15, 3) := by decide +kernel
theorem dJ5_ensureCapacityInternal_d00df_22 : decode cJ5_ensureCapacityInternal_d00df 22 = .ok (.aload_n 0, 1) := by decide +kernel
theorem dJ5_ensureCapacityInternal_d00df_23 : decode cJ5_ensureCapacityInternal_d00df 23 = .ok (.iload_n 1, 1) := by decide +kernel
theorem dJ5_ensureCapacityInternal_d00df_24 : decode cJ5_ensureCapacityInternal_d00df 24 = .ok (.invokevirtual 104, 3) := by decide +kernel
theorem dJ5_ensureCapacityInternal_d00df_27 : decode cJ5_ensureCapacityInternal_d00df 27 = .ok (.aload_n 0, 1) := by decide +kernel
theorem dJ5_ensureCapacityInternal_d00df_28 : decode cJ5_ensureCapacityInternal_d00df 28 = .ok (.getfield 22, 3) := by decide +kernel
theorem dJ5_ensureCapacityInternal_d00df_31 : decode cJ5_ensureCapacityInternal_d00df 31 = .ok (.ishl, 1) := by decide +kernel
theorem dJ5_ensureCapacityInternal_d00df_32 : decode cJ5_ensureCapacityInternal_d00df 32 = .ok (.invokestatic 108, 3) := by decide +kernel
theorem dJ5_ensureCapacityInternal_d00df_35 : decode cJ5_ensureCapacityInternal_d00df 35 = .ok (.putfield 15, 3) := by decide +kernel
theorem dJ5_ensureCapacityInternal_d00df_38 : decode cJ5_ensureCapacityInternal_d00df 38 = .ok (.return_, 1) := by decide +kernel
theorem dJ5_newCapacity_0f7a4_0 : decode cJ5_newCapacity_0f7a4 0 = .ok (.aload_n 0, 1) := by decide +kernel
theorem dJ5_newCapacity_0f7a4_1 : decode cJ5_newCapacity_0f7a4 1 = .ok (.getfield 15, 3) := by decide +kernel
theorem dJ5_newCapacity_0f7a4_4 : decode cJ5_newCapacity_0f7a4 4 = .ok (.arraylength, 1) := by decide +kernel
theorem dJ5_newCapacity_0f7a4_5 : decode cJ5_newCapacity_0f7a4 5 = .ok (.istore_n 2, 1) := by decide +kernel
theorem dJ5_newCapacity_0f7a4_6 : decode cJ5_newCapacity_0f7a4 6 = .ok (.iload_n 1, 1) := by decide +kernel
theorem dJ5_newCapacity_0f7a4_7 : decode cJ5_newCapacity_0f7a4 7 = .ok (.aload_n 0, 1) := by decide +kernel
theorem dJ5_newCapacity_0f7a4_8 : decode cJ5_newCapacity_0f7a4 8 = .ok (.getfield 22, 3) := by decide +kernel
theorem dJ5_newCapacity_0f7a4_11 : decode cJ5_newCapacity_0f7a4 11 = .ok (.ishl, 1) := by decide +kernel
theorem dJ5_newCapacity_0f7a4_12 : decode cJ5_newCapacity_0f7a4 12 = .ok (.istore_n 3, 1) := by decide +kernel
theorem dJ5_newCapacity_0f7a4_13 : decode cJ5_newCapacity_0f7a4 13 = .ok (.iload_n 3, 1) := by decide +kernel
theorem dJ5_newCapacity_0f7a4_14 : decode cJ5_newCapacity_0f7a4 14 = .ok (.iload_n 2, 1) := by decide +kernel
theorem dJ5_newCapacity_0f7a4_15 : decode cJ5_newCapacity_0f7a4 15 = .ok (.isub, 1) := by decide +kernel
theorem dJ5_newCapacity_0f7a4_16 : decode cJ5_newCapacity_0f7a4 16 = .ok (.istore 4, 2) := by decide +kernel
theorem dJ5_newCapacity_0f7a4_18 : decode cJ5_newCapacity_0f7a4 18 = .ok (.iload_n 2, 1) := by decide +kernel
theorem dJ5_newCapacity_0f7a4_19 : decode cJ5_newCapacity_0f7a4 19 = .ok (.iload 4, 2) := by decide +kernel
theorem dJ5_newCapacity_0f7a4_21 : decode cJ5_newCapacity_0f7a4 21 = .ok (.iload_n 2, 1) := by decide +kernel
theorem dJ5_newCapacity_0f7a4_22 : decode cJ5_newCapacity_0f7a4 22 = .ok (.iconst 2, 1) := by decide +kernel
theorem dJ5_newCapacity_0f7a4_23 : decode cJ5_newCapacity_0f7a4 23 = .ok (.aload_n 0, 1) := by decide +kernel
theorem dJ5_newCapacity_0f7a4_24 : decode cJ5_newCapacity_0f7a4 24 = .ok (.getfield 22, 3) := by decide +kernel
theorem dJ5_newCapacity_0f7a4_27 : decode cJ5_newCapacity_0f7a4 27 = .ok (.ishl, 1) := by decide +kernel
theorem dJ5_newCapacity_0f7a4_28 : decode cJ5_newCapacity_0f7a4 28 = .ok (.iadd, 1) := by decide +kernel
theorem dJ5_newCapacity_0f7a4_29 : decode cJ5_newCapacity_0f7a4 29 = .ok (.invokestatic 114, 3) := by decide +kernel
theorem dJ5_newCapacity_0f7a4_32 : decode cJ5_newCapacity_0f7a4 32 = .ok (.istore 5, 2) := by decide +kernel
theorem dJ5_newCapacity_0f7a4_34 : decode cJ5_newCapacity_0f7a4 34 = .ok (.iload 5, 2) := by decide +kernel
theorem dJ5_newCapacity_0f7a4_36 : decode cJ5_newCapacity_0f7a4 36 = .ok (.ldc 39, 2) := by decide +kernel
theorem dJ5_newCapacity_0f7a4_38 : decode cJ5_newCapacity_0f7a4 38 = .ok (.if_icmp .ne 13, 3) := by decide +kernel
theorem dJ5_newCapacity_0f7a4_41 : decode cJ5_newCapacity_0f7a4 41 = .ok (.new 120, 3) := by decide +kernel
theorem dJ5_newCapacity_0f7a4_44 : decode cJ5_newCapacity_0f7a4 44 = .ok (.dup, 1) := by decide +kernel
theorem dJ5_newCapacity_0f7a4_45 : decode cJ5_newCapacity_0f7a4 45 = .ok (.ldc 122, 2) := by decide +kernel
theorem dJ5_newCapacity_0f7a4_47 : decode cJ5_newCapacity_0f7a4 47 = .ok (.invokespecial 124, 3) := by decide +kernel
theorem dJ5_newCapacity_0f7a4_50 : decode cJ5_newCapacity_0f7a4 50 = .ok (.athrow, 1) := by decide +kernel
theorem dJ5_newCapacity_0f7a4_51 : decode cJ5_newCapacity_0f7a4 51 = .ok (.iload 5, 2) := by decide +kernel
theorem dJ5_newCapacity_0f7a4_53 : decode cJ5_newCapacity_0f7a4 53 = .ok (.aload_n 0, 1) := by decide +kernel
theorem dJ5_newCapacity_0f7a4_54 : decode cJ5_newCapacity_0f7a4 54 = .ok (.getfield 22, 3) := by decide +kernel
theorem dJ5_newCapacity_0f7a4_57 : decode cJ5_newCapacity_0f7a4 57 = .ok (.ishr, 1) := by decide +kernel
theorem dJ5_newCapacity_0f7a4_58 : decode cJ5_newCapacity_0f7a4 58 = .ok (.ireturn, 1) := by decide +kernel
theorem dJ5_inflate_da8c8_0 : decode cJ5_inflate_da8c8 0 = .ok (.aload_n 0, 1) := by decide +kernel
theorem dJ5_inflate_da8c8_1 : decode cJ5_inflate_da8c8 1 = .ok (.invokevirtual 83, 3) := by decide +kernel
theorem dJ5_inflate_da8c8_4 : decode cJ5_inflate_da8c8 4 = .ok (.ifCond .ne 4, 3) := by decide +kernel
theorem dJ5_inflate_da8c8_7 : decode cJ5_inflate_da8c8 7 = .ok (.return_, 1) := by decide +kernel
theorem dJ5_inflate_da8c8_8 : decode cJ5_inflate_da8c8 8 = .ok (.aload_n 0, 1) := by decide +kernel
theorem dJ5_inflate_da8c8_9 : decode cJ5_inflate_da8c8 9 = .ok (.getfield 15, 3) := by decide +kernel
theorem dJ5_inflate_da8c8_12 : decode cJ5_inflate_da8c8 12 = .ok (.arraylength, 1) := by decide +kernel
theorem dJ5_inflate_da8c8_13 : decode cJ5_inflate_da8c8 13 = .ok (.invokestatic 26, 3) := by decide +kernel
theorem dJ5_inflate_da8c8_16 : decode cJ5_inflate_da8c8 16 = .ok (.astore_n 1, 1) := by decide +kernel
theorem dJ5_inflate_da8c8_17 : decode cJ5_inflate_da8c8 17 = .ok (.aload_n 0, 1) := by decide +kernel
theorem dJ5_inflate_da8c8_18 : decode cJ5_inflate_da8c8 18 = .ok (.getfield 15, 3) := by decide +kernel
theorem dJ5_inflate_da8c8_21 : decode cJ5_inflate_da8c8 21 = .ok (.iconst 0, 1) := by decide +kernel
theorem dJ5_inflate_da8c8_22 : decode cJ5_inflate_da8c8 22 = .ok (.aload_n 1, 1) := by decide +kernel
theorem dJ5_inflate_da8c8_23 : decode cJ5_inflate_da8c8 23 = .ok (.iconst 0, 1) := by decide +kernel
theorem dJ5_inflate_da8c8_24 : decode cJ5_inflate_da8c8 24 = .ok (.aload_n 0, 1) := by decide +kernel
theorem dJ5_inflate_da8c8_25 : decode cJ5_inflate_da8c8 25 = .ok (.getfield 79, 3) := by decide +kernel
theorem dJ5_inflate_da8c8_28 : decode cJ5_inflate_da8c8 28 = .ok (.invokestatic 125, 3) := by decide +kernel
theorem dJ5_inflate_da8c8_31 : decode cJ5_inflate_da8c8 31 = .ok (.aload_n 0, 1) := by decide +kernel
theorem dJ5_inflate_da8c8_32 : decode cJ5_inflate_da8c8 32 = .ok (.aload_n 1, 1) := by decide +kernel
theorem dJ5_inflate_da8c8_33 : decode cJ5_inflate_da8c8 33 = .ok (.putfield 15, 3) := by decide +kernel
theorem dJ5_inflate_da8c8_36 : decode cJ5_inflate_da8c8 36 = .ok (.aload_n 0, 1) := by decide +kernel
theorem dJ5_inflate_da8c8_37 : decode cJ5_inflate_da8c8 37 = .ok (.iconst 1, 1) := by decide +kernel
theorem dJ5_inflate_da8c8_38 : decode cJ5_inflate_da8c8 38 = .ok (.putfield 22, 3) := by decide +kernel
theorem dJ5_inflate_da8c8_41 : decode cJ5_inflate_da8c8 41 = .ok (.return_, 1) := by decide +kernel
theorem dJ5_charAt_5068e_0 : decode cJ5_charAt_5068e 0 = .ok (.aload_n 0, 1) := by decide +kernel
theorem dJ5_charAt_5068e_1 : decode cJ5_charAt_5068e 1 = .ok (.getfield 22, 3) := by decide +kernel
theorem dJ5_charAt_5068e_4 : decode cJ5_charAt_5068e 4 = .ok (.istore_n 2, 1) := by decide +kernel
theorem dJ5_charAt_5068e_5 : decode cJ5_charAt_5068e 5 = .ok (.aload_n 0, 1) := by decide +kernel
theorem dJ5_charAt_5068e_6 : decode cJ5_charAt_5068e 6 = .ok (.getfield 15, 3) := by decide +kernel
theorem dJ5_charAt_5068e_9 : decode cJ5_charAt_5068e 9 = .ok (.astore_n 3, 1) := by decide +kernel
theorem dJ5_charAt_5068e_10 : decode cJ5_charAt_5068e 10 = .ok (.aload_n 0, 1) := by decide +kernel
theorem dJ5_charAt_5068e_11 : decode cJ5_charAt_5068e 11 = .ok (.getfield 79, 3) := by decide +kernel
theorem dJ5_charAt_5068e_14 : decode cJ5_charAt_5068e 14 = .ok (.aload_n 3, 1) := by decide +kernel
theorem dJ5_charAt_5068e_15 : decode cJ5_charAt_5068e 15 = .ok (.arraylength, 1) := by decide +kernel
theorem dJ5_charAt_5068e_16 : decode cJ5_charAt_5068e 16 = .ok (.iload_n 2, 1) := by decide +kernel
theorem dJ5_charAt_5068e_17 : decode cJ5_charAt_5068e 17 = .ok (.ishr, 1) := by decide +kernel
theorem dJ5_charAt_5068e_18 : decode cJ5_charAt_5068e 18 = .ok (.invokestatic 138, 3) := by decide +kernel
theorem dJ5_charAt_5068e_21 : decode cJ5_charAt_5068e 21 = .ok (.istore 4, 2) := by decide +kernel
theorem dJ5_charAt_5068e_23 : decode cJ5_charAt_5068e 23 = .ok (.iload_n 1, 1) := by decide +kernel
theorem dJ5_charAt_5068e_24 : decode cJ5_charAt_5068e 24 = .ok (.iload 4, 2) := by decide +kernel
theorem dJ5_charAt_5068e_26 : decode cJ5_charAt_5068e 26 = .ok (.invokestatic 144, 3) := by decide +kernel
theorem dJ5_charAt_5068e_29 : decode cJ5_charAt_5068e 29 = .ok (.iload_n 2, 1) := by decide +kernel
theorem dJ5_charAt_5068e_30 : decode cJ5_charAt_5068e 30 = .ok (.ifCond .ne 12, 3) := by decide +kernel
theorem dJ5_charAt_5068e_33 : decode cJ5_charAt_5068e 33 = .ok (.aload_n 3, 1) := by decide +kernel
theorem dJ5_charAt_5068e_34 : decode cJ5_charAt_5068e 34 = .ok (.iload_n 1, 1) := by decide +kernel
theorem dJ5_charAt_5068e_35 : decode cJ5_charAt_5068e 35 = .ok (.baload, 1) := by decide +kernel
theorem dJ5_charAt_5068e_36 : decode cJ5_charAt_5068e 36 = .ok (.sipush 255, 3) := by decide +kernel
theorem dJ5_charAt_5068e_39 : decode cJ5_charAt_5068e 39 = .ok (.iand, 1) := by decide +kernel
theorem dJ5_charAt_5068e_40 : decode cJ5_charAt_5068e 40 = .ok (.i2c, 1) := by decide +kernel
theorem dJ5_charAt_5068e_41 : decode cJ5_charAt_5068e 41 = .ok (.ireturn, 1) := by decide +kernel
theorem dJ5_charAt_5068e_42 : decode cJ5_charAt_5068e 42 = .ok (.aload_n 3, 1) := by decide +kernel
theorem dJ5_charAt_5068e_43 : decode cJ5_charAt_5068e 43 = .ok (.iload_n 1, 1) := by decide +kernel
theorem dJ5_charAt_5068e_44 : decode cJ5_charAt_5068e 44 = .ok (.invokestatic 148, 3) := by decide +kernel
theorem dJ5_charAt_5068e_47 : decode cJ5_charAt_5068e 47 = .ok (.ireturn, 1) := by decide +kernel
theorem dJ5_append_cf1ce_0 : decode cJ5_append_cf1ce 0 = .ok (.aload_n 1, 1) := by decide +kernel
theorem dJ5_append_cf1ce_1 : decode cJ5_append_cf1ce 1 = .ok (.ifnonnull 8, 3) := by decide +kernel
theorem dJ5_append_cf1ce_4 : decode cJ5_append_cf1ce 4 = .ok (.aload_n 0, 1) := by decide +kernel
theorem dJ5_append_cf1ce_5 : decode cJ5_append_cf1ce 5 = .ok (.invokevirtual 204, 3) := by decide +kernel
theorem dJ5_append_cf1ce_8 : decode cJ5_append_cf1ce 8 = .ok (.areturn, 1) := by decide +kernel
theorem dJ5_append_cf1ce_9 : decode cJ5_append_cf1ce 9 = .ok (.aload_n 1, 1) := by decide +kernel
theorem dJ5_append_cf1ce_10 : decode cJ5_append_cf1ce 10 = .ok (.invokevirtual 32, 3) := by decide +kernel
theorem dJ5_append_cf1ce_13 : decode cJ5_append_cf1ce 13 = .ok (.istore_n 2, 1) := by decide +kernel
theorem dJ5_append_cf1ce_14 : decode cJ5_append_cf1ce 14 = .ok (.aload_n 0, 1) := by decide +kernel
theorem dJ5_append_cf1ce_15 : decode cJ5_append_cf1ce 15 = .ok (.aload_n 0, 1) := by decide +kernel
theorem dJ5_append_cf1ce_16 : decode cJ5_append_cf1ce 16 = .ok (.getfield 79, 3) := by decide +kernel
theorem dJ5_append_cf1ce_19 : decode cJ5_append_cf1ce 19 = .ok (.iload_n 2, 1) := by decide +kernel
theorem dJ5_append_cf1ce_20 : decode cJ5_append_cf1ce 20 = .ok (.iadd, 1) := by decide +kernel
theorem dJ5_append_cf1ce_21 : decode cJ5_append_cf1ce 21 = .ok (.invokevirtual 100, 3) := by decide +kernel
theorem dJ5_append_cf1ce_24 : decode cJ5_append_cf1ce 24 = .ok (.aload_n 0, 1) := by decide +kernel
theorem dJ5_append_cf1ce_25 : decode cJ5_append_cf1ce 25 = .ok (.aload_n 0, 1) := by decide +kernel
theorem dJ5_append_cf1ce_26 : decode cJ5_append_cf1ce 26 = .ok (.getfield 79, 3) := by decide +kernel
theorem dJ5_append_cf1ce_29 : decode cJ5_append_cf1ce 29 = .ok (.aload_n 1, 1) := by decide +kernel
theorem dJ5_append_cf1ce_30 : decode cJ5_append_cf1ce 30 = .ok (.invokevirtual 208, 3) := by decide +kernel
theorem dJ5_append_cf1ce_33 : decode cJ5_append_cf1ce 33 = .ok (.aload_n 0, 1) := by decide +kernel
theorem dJ5_append_cf1ce_34 : decode cJ5_append_cf1ce 34 = .ok (.dup, 1) := by decide +kernel
theorem dJ5_append_cf1ce_35 : decode cJ5_append_cf1ce 35 = .ok (.getfield 79, 3) := by decide +kernel
theorem dJ5_append_cf1ce_38 : decode cJ5_append_cf1ce 38 = .ok (.iload_n 2, 1) := by decide +kernel
theorem dJ5_append_cf1ce_39 : decode cJ5_append_cf1ce 39 = .ok (.iadd, 1) := by decide +kernel
theorem dJ5_append_cf1ce_40 : decode cJ5_append_cf1ce 40 = .ok (.putfield 79, 3) := by decide +kernel
theorem dJ5_append_cf1ce_43 : decode cJ5_append_cf1ce 43 = .ok (.aload_n 0, 1) := by decide +kernel
theorem dJ5_append_cf1ce_44 : decode cJ5_append_cf1ce 44 = .ok (.areturn, 1) := by decide +kernel
theorem dJ5_appendNull_278bc_0 : decode cJ5_appendNull_278bc 0 = .ok (.aload_n 0, 1) := by decide +kernel
theorem dJ5_appendNull_278bc_1 : decode cJ5_appendNull_278bc 1 = .ok (.aload_n 0, 1) := by decide +kernel
theorem dJ5_appendNull_278bc_2 : decode cJ5_appendNull_278bc 2 = .ok (.getfield 79, 3) := by decide +kernel
theorem dJ5_appendNull_278bc_5 : decode cJ5_appendNull_278bc 5 = .ok (.iconst 4, 1) := by decide +kernel
theorem dJ5_appendNull_278bc_6 : decode cJ5_appendNull_278bc 6 = .ok (.iadd, 1) := by decide +kernel
theorem dJ5_appendNull_278bc_7 : decode cJ5_appendNull_278bc 7 = .ok (.invokevirtual 100, 3) := by decide +kernel
theorem dJ5_appendNull_278bc_10 : decode cJ5_appendNull_278bc 10 = .ok (.aload_n 0, 1) := by decide +kernel
theorem dJ5_appendNull_278bc_11 : decode cJ5_appendNull_278bc 11 = .ok (.getfield 79, 3) := by decide +kernel
theorem dJ5_appendNull_278bc_14 : decode cJ5_appendNull_278bc 14 = .ok (.istore_n 1, 1) := by decide +kernel
theorem dJ5_appendNull_278bc_15 : decode cJ5_appendNull_278bc 15 = .ok (.aload_n 0, 1) := by decide +kernel
theorem dJ5_appendNull_278bc_16 : decode cJ5_appendNull_278bc 16 = .ok (.getfield 15, 3) := by decide +kernel
theorem dJ5_appendNull_278bc_19 : decode cJ5_appendNull_278bc 19 = .ok (.astore_n 2, 1) := by decide +kernel
theorem dJ5_appendNull_278bc_20 : decode cJ5_appendNull_278bc 20 = .ok (.aload_n 0, 1) := by decide +kernel
theorem dJ5_appendNull_278bc_21 : decode cJ5_appendNull_278bc 21 = .ok (.invokevirtual 83, 3) := by decide +kernel
theorem dJ5_appendNull_278bc_24 : decode cJ5_appendNull_278bc 24 = .ok (.ifCond .eq 38, 3) := by decide +kernel
theorem dJ5_appendNull_278bc_27 : decode cJ5_appendNull_278bc 27 = .ok (.aload_n 2, 1) := by decide +kernel
theorem dJ5_appendNull_278bc_28 : decode cJ5_appendNull_278bc 28 = .ok (.iload_n 1, 1) := by decide +kernel
theorem dJ5_appendNull_278bc_29 : decode cJ5_appendNull_278bc 29 = .ok (.iinc 1 1, 3) := by decide +kernel
theorem dJ5_appendNull_278bc_32 : decode cJ5_appendNull_278bc 32 = .ok (.bipush 110, 2) := by decide +kernel
theorem dJ5_appendNull_278bc_34 : decode cJ5_appendNull_278bc 34 = .ok (.bastore, 1) := by decide +kernel
theorem dJ5_appendNull_278bc_35 : decode cJ5_appendNull_278bc 35 = .ok (.aload_n 2, 1) := by decide +kernel
theorem dJ5_appendNull_278bc_36 : decode cJ5_appendNull_278bc 36 = .ok (.iload_n 1, 1) := by decide +kernel
theorem dJ5_appendNull_278bc_37 : decode cJ5_appendNull_278bc 37 = .ok (.iinc 1 1, 3) := by decide +kernel
theorem dJ5_appendNull_278bc_40 : decode cJ5_appendNull_278bc 40 = .ok (.bipush 117, 2) := by decide +kernel
theorem dJ5_appendNull_278bc_42 : decode cJ5_appendNull_278bc 42 = .ok (.bastore, 1) := by decide +kernel
theorem dJ5_appendNull_278bc_43 : decode cJ5_appendNull_278bc 43 = .ok (.aload_n 2, 1) := by decide +kernel
theorem dJ5_appendNull_278bc_44 : decode cJ5_appendNull_278bc 44 = .ok (.iload_n 1, 1) := by decide +kernel
theorem dJ5_appendNull_278bc_45 : decode cJ5_appendNull_278bc 45 = .ok (.iinc 1 1, 3) := by decide +kernel
theorem dJ5_appendNull_278bc_48 : decode cJ5_appendNull_278bc 48 = .ok (.bipush 108, 2) := by decide +kernel
theorem dJ5_appendNull_278bc_50 : decode cJ5_appendNull_278bc 50 = .ok (.bastore, 1) := by decide +kernel
theorem dJ5_appendNull_278bc_51 : decode cJ5_appendNull_278bc 51 = .ok (.aload_n 2, 1) := by decide +kernel
theorem dJ5_appendNull_278bc_52 : decode cJ5_appendNull_278bc 52 = .ok (.iload_n 1, 1) := by decide +kernel
theorem dJ5_appendNull_278bc_53 : decode cJ5_appendNull_278bc 53 = .ok (.iinc 1 1, 3) := by decide +kernel
theorem dJ5_appendNull_278bc_56 : decode cJ5_appendNull_278bc 56 = .ok (.bipush 108, 2) := by decide +kernel
theorem dJ5_appendNull_278bc_58 : decode cJ5_appendNull_278bc 58 = .ok (.bastore, 1) := by decide +kernel
theorem dJ5_appendNull_278bc_59 : decode cJ5_appendNull_278bc 59 = .ok (.goto 17, 3) := by decide +kernel
theorem dJ5_appendNull_278bc_62 : decode cJ5_appendNull_278bc 62 = .ok (.aload_n 2, 1) := by decide +kernel
theorem dJ5_appendNull_278bc_63 : decode cJ5_appendNull_278bc 63 = .ok (.iload_n 1, 1) := by decide +kernel
theorem dJ5_appendNull_278bc_64 : decode cJ5_appendNull_278bc 64 = .ok (.bipush 110, 2) := by decide +kernel
theorem dJ5_appendNull_278bc_66 : decode cJ5_appendNull_278bc 66 = .ok (.bipush 117, 2) := by decide +kernel
theorem dJ5_appendNull_278bc_68 : decode cJ5_appendNull_278bc 68 = .ok (.bipush 108, 2) := by decide +kernel
theorem dJ5_appendNull_278bc_70 : decode cJ5_appendNull_278bc 70 = .ok (.bipush 108, 2) := by decide +kernel
theorem dJ5_appendNull_278bc_72 : decode cJ5_appendNull_278bc 72 = .ok (.invokestatic 226, 3) := by decide +kernel
theorem dJ5_appendNull_278bc_75 : decode cJ5_appendNull_278bc 75 = .ok (.istore_n 1, 1) := by decide +kernel
theorem dJ5_appendNull_278bc_76 : decode cJ5_appendNull_278bc 76 = .ok (.aload_n 0, 1) := by decide +kernel
theorem dJ5_appendNull_278bc_77 : decode cJ5_appendNull_278bc 77 = .ok (.iload_n 1, 1) := by decide +kernel
theorem dJ5_appendNull_278bc_78 : decode cJ5_appendNull_278bc 78 = .ok (.putfield 79, 3) := by decide +kernel
theorem dJ5_appendNull_278bc_81 : decode cJ5_appendNull_278bc 81 = .ok (.aload_n 0, 1) := by decide +kernel
theorem dJ5_appendNull_278bc_82 : decode cJ5_appendNull_278bc 82 = .ok (.areturn, 1) := by decide +kernel
theorem dJ5_append_3fe6f_0 : decode cJ5_append_3fe6f 0 = .ok (.aload_n 0, 1) := by decide +kernel
theorem dJ5_append_3fe6f_1 : decode cJ5_append_3fe6f 1 = .ok (.aload_n 0, 1) := by decide +kernel
theorem dJ5_append_3fe6f_2 : decode cJ5_append_3fe6f 2 = .ok (.getfield 79, 3) := by decide +kernel
theorem dJ5_append_3fe6f_5 : decode cJ5_append_3fe6f 5 = .ok (.iconst 1, 1) := by decide +kernel
theorem dJ5_append_3fe6f_6 : decode cJ5_append_3fe6f 6 = .ok (.iadd, 1) := by decide +kernel
theorem dJ5_append_3fe6f_7 : decode cJ5_append_3fe6f 7 = .ok (.invokevirtual 100, 3) := by decide +kernel
theorem dJ5_append_3fe6f_10 : decode cJ5_append_3fe6f 10 = .ok (.aload_n 0, 1) := by decide +kernel
theorem dJ5_append_3fe6f_11 : decode cJ5_append_3fe6f 11 = .ok (.invokevirtual 83, 3) := by decide +kernel
theorem dJ5_append_3fe6f_14 : decode cJ5_append_3fe6f 14 = .ok (.ifCond .eq 31, 3) := by decide +kernel
theorem dJ5_append_3fe6f_17 : decode cJ5_append_3fe6f 17 = .ok (.iload_n 1, 1) := by decide +kernel
theorem dJ5_append_3fe6f_18 : decode cJ5_append_3fe6f 18 = .ok (.invokestatic 191, 3) := by decide +kernel
theorem dJ5_append_3fe6f_21 : decode cJ5_append_3fe6f 21 = .ok (.ifCond .eq 24, 3) := by decide +kernel
theorem dJ5_append_3fe6f_24 : decode cJ5_append_3fe6f 24 = .ok (.aload_n 0, 1) := by decide +kernel
theorem dJ5_append_3fe6f_25 : decode cJ5_append_3fe6f 25 = .ok (.getfield 15, 3) := by decide +kernel
theorem dJ5_append_3fe6f_28 : decode cJ5_append_3fe6f 28 = .ok (.aload_n 0, 1) := by decide +kernel
theorem dJ5_append_3fe6f_29 : decode cJ5_append_3fe6f 29 = .ok (.dup, 1) := by decide +kernel
theorem dJ5_append_3fe6f_30 : decode cJ5_append_3fe6f 30 = .ok (.getfield 79, 3) := by decide +kernel
theorem dJ5_append_3fe6f_33 : decode cJ5_append_3fe6f 33 = .ok (.dup_x1, 1) := by decide +kernel
theorem dJ5_append_3fe6f_34 : decode cJ5_append_3fe6f 34 = .ok (.iconst 1, 1) := by decide +kernel
theorem dJ5_append_3fe6f_35 : decode cJ5_append_3fe6f 35 = .ok (.iadd, 1) := by decide +kernel
theorem dJ5_append_3fe6f_36 : decode cJ5_append_3fe6f 36 = .ok (.putfield 79, 3) := by decide +kernel
theorem dJ5_append_3fe6f_39 : decode cJ5_append_3fe6f 39 = .ok (.iload_n 1, 1) := by decide +kernel
theorem dJ5_append_3fe6f_40 : decode cJ5_append_3fe6f 40 = .ok (.i2b, 1) := by decide +kernel
theorem dJ5_append_3fe6f_41 : decode cJ5_append_3fe6f 41 = .ok (.bastore, 1) := by decide +kernel
theorem dJ5_append_3fe6f_42 : decode cJ5_append_3fe6f 42 = .ok (.goto 33, 3) := by decide +kernel
theorem dJ5_append_3fe6f_45 : decode cJ5_append_3fe6f 45 = .ok (.aload_n 0, 1) := by decide +kernel
theorem dJ5_append_3fe6f_46 : decode cJ5_append_3fe6f 46 = .ok (.invokevirtual 83, 3) := by decide +kernel
theorem dJ5_append_3fe6f_49 : decode cJ5_append_3fe6f 49 = .ok (.ifCond .eq 7, 3) := by decide +kernel
theorem dJ5_append_3fe6f_52 : decode cJ5_append_3fe6f 52 = .ok (.aload_n 0, 1) := by decide +kernel
theorem dJ5_append_3fe6f_53 : decode cJ5_append_3fe6f 53 = .ok (.invokevirtual 195, 3) := by decide +kernel
theorem dJ5_append_3fe6f_56 : decode cJ5_append_3fe6f 56 = .ok (.aload_n 0, 1) := by decide +kernel
theorem dJ5_append_3fe6f_57 : decode cJ5_append_3fe6f 57 = .ok (.getfield 15, 3) := by decide +kernel
theorem dJ5_append_3fe6f_60 : decode cJ5_append_3fe6f 60 = .ok (.aload_n 0, 1) := by decide +kernel
theorem dJ5_append_3fe6f_61 : decode cJ5_append_3fe6f 61 = .ok (.dup, 1) := by decide +kernel
theorem dJ5_append_3fe6f_62 : decode cJ5_append_3fe6f 62 = .ok (.getfield 79, 3) := by decide +kernel
theorem dJ5_append_3fe6f_65 : decode cJ5_append_3fe6f 65 = .ok (.dup_x1, 1) := by decide +kernel
theorem dJ5_append_3fe6f_66 : decode cJ5_append_3fe6f 66 = .ok (.iconst 1, 1) := by decide +kernel
theorem dJ5_append_3fe6f_67 : decode cJ5_append_3fe6f 67 = .ok (.iadd, 1) := by decide +kernel
theorem dJ5_append_3fe6f_68 : decode cJ5_append_3fe6f 68 = .ok (.putfield 79, 3) := by decide +kernel
theorem dJ5_append_3fe6f_71 : decode cJ5_append_3fe6f 71 = .ok (.iload_n 1, 1) := by decide +kernel
theorem dJ5_append_3fe6f_72 : decode cJ5_append_3fe6f 72 = .ok (.invokestatic 197, 3) := by decide +kernel
theorem dJ5_append_3fe6f_75 : decode cJ5_append_3fe6f 75 = .ok (.aload_n 0, 1) := by decide +kernel
theorem dJ5_append_3fe6f_76 : decode cJ5_append_3fe6f 76 = .ok (.areturn, 1) := by decide +kernel
theorem dJ5_append_c97b9_0 : decode cJ5_append_c97b9 0 = .ok (.aload_n 0, 1) := by decide +kernel
theorem dJ5_append_c97b9_1 : decode cJ5_append_c97b9 1 = .ok (.getfield 79, 3) := by decide +kernel
theorem dJ5_append_c97b9_4 : decode cJ5_append_c97b9 4 = .ok (.istore_n 2, 1) := by decide +kernel
theorem dJ5_append_c97b9_5 : decode cJ5_append_c97b9 5 = .ok (.iload_n 2, 1) := by decide +kernel
theorem dJ5_append_c97b9_6 : decode cJ5_append_c97b9 6 = .ok (.iload_n 1, 1) := by decide +kernel
theorem dJ5_append_c97b9_7 : decode cJ5_append_c97b9 7 = .ok (.invokestatic 245, 3) := by decide +kernel
theorem dJ5_append_c97b9_10 : decode cJ5_append_c97b9 10 = .ok (.iadd, 1) := by decide +kernel
theorem dJ5_append_c97b9_11 : decode cJ5_append_c97b9 11 = .ok (.istore_n 3, 1) := by decide +kernel
theorem dJ5_append_c97b9_12 : decode cJ5_append_c97b9 12 = .ok (.aload_n 0, 1) := by decide +kernel
theorem dJ5_append_c97b9_13 : decode cJ5_append_c97b9 13 = .ok (.iload_n 3, 1) := by decide +kernel
theorem dJ5_append_c97b9_14 : decode cJ5_append_c97b9 14 = .ok (.invokevirtual 100, 3) := by decide +kernel
theorem dJ5_append_c97b9_17 : decode cJ5_append_c97b9 17 = .ok (.aload_n 0, 1) := by decide +kernel
theorem dJ5_append_c97b9_18 : decode cJ5_append_c97b9 18 = .ok (.invokevirtual 83, 3) := by decide +kernel
theorem dJ5_append_c97b9_21 : decode cJ5_append_c97b9 21 = .ok (.ifCond .eq 16, 3) := by decide +kernel
theorem dJ5_append_c97b9_24 : decode cJ5_append_c97b9 24 = .ok (.iload_n 1, 1) := by decide +kernel
theorem dJ5_append_c97b9_25 : decode cJ5_append_c97b9 25 = .ok (.iload_n 3, 1) := by decide +kernel
theorem dJ5_append_c97b9_26 : decode cJ5_append_c97b9 26 = .ok (.aload_n 0, 1) := by decide +kernel
theorem dJ5_append_c97b9_27 : decode cJ5_append_c97b9 27 = .ok (.getfield 15, 3) := by decide +kernel
theorem dJ5_append_c97b9_30 : decode cJ5_append_c97b9 30 = .ok (.invokestatic 248, 3) := by decide +kernel
theorem dJ5_append_c97b9_33 : decode cJ5_append_c97b9 33 = .ok (.pop, 1) := by decide +kernel
theorem dJ5_append_c97b9_34 : decode cJ5_append_c97b9 34 = .ok (.goto 14, 3) := by decide +kernel
theorem dJ5_append_c97b9_37 : decode cJ5_append_c97b9 37 = .ok (.iload_n 1, 1) := by decide +kernel
theorem dJ5_append_c97b9_38 : decode cJ5_append_c97b9 38 = .ok (.iload_n 2, 1) := by decide +kernel
theorem dJ5_append_c97b9_39 : decode cJ5_append_c97b9 39 = .ok (.iload_n 3, 1) := by decide +kernel
theorem dJ5_append_c97b9_40 : decode cJ5_append_c97b9 40 = .ok (.aload_n 0, 1) := by decide +kernel
theorem dJ5_append_c97b9_41 : decode cJ5_append_c97b9 41 = .ok (.getfield 15, 3) := by decide +kernel
theorem dJ5_append_c97b9_44 : decode cJ5_append_c97b9 44 = .ok (.invokestatic 251, 3) := by decide +kernel
theorem dJ5_append_c97b9_47 : decode cJ5_append_c97b9 47 = .ok (.pop, 1) := by decide +kernel
theorem dJ5_append_c97b9_48 : decode cJ5_append_c97b9 48 = .ok (.aload_n 0, 1) := by decide +kernel
theorem dJ5_append_c97b9_49 : decode cJ5_append_c97b9 49 = .ok (.iload_n 3, 1) := by decide +kernel
theorem dJ5_append_c97b9_50 : decode cJ5_append_c97b9 50 = .ok (.putfield 79, 3) := by decide +kernel
theorem dJ5_append_c97b9_53 : decode cJ5_append_c97b9 53 = .ok (.aload_n 0, 1) := by decide +kernel
theorem dJ5_append_c97b9_54 : decode cJ5_append_c97b9 54 = .ok (.areturn, 1) := by decide +kernel
theorem dJ5_getValue_6d5f1_0 : decode cJ5_getValue_6d5f1 0 = .ok (.aload_n 0, 1) := by decide +kernel
theorem dJ5_getValue_6d5f1_1 : decode cJ5_getValue_6d5f1 1 = .ok (.getfield 15, 3) := by decide +kernel
theorem dJ5_getValue_6d5f1_4 : decode cJ5_getValue_6d5f1 4 = .ok (.areturn, 1) := by decide +kernel
theorem dJ5_isLatin1_aae02_0 : decode cJ5_isLatin1_aae02 0 = .ok (.getstatic 18, 3) := by decide +kernel
theorem dJ5_isLatin1_aae02_3 : decode cJ5_isLatin1_aae02 3 = .ok (.ifCond .eq 14, 3) := by decide +kernel
theorem dJ5_isLatin1_aae02_6 : decode cJ5_isLatin1_aae02 6 = .ok (.aload_n 0, 1) := by decide +kernel
theorem dJ5_isLatin1_aae02_7 : decode cJ5_isLatin1_aae02 7 = .ok (.getfield 22, 3) := by decide +kernel
theorem dJ5_isLatin1_aae02_10 : decode cJ5_isLatin1_aae02 10 = .ok (.ifCond .ne 7, 3) := by decide +kernel
theorem dJ5_isLatin1_aae02_13 : decode cJ5_isLatin1_aae02 13 = .ok (.iconst 1, 1) := by decide +kernel
theorem dJ5_isLatin1_aae02_14 : decode cJ5_isLatin1_aae02 14 = .ok (.goto 4, 3) := by decide +kernel
theorem dJ5_isLatin1_aae02_17 : decode cJ5_isLatin1_aae02 17 = .ok (.iconst 0, 1) := by decide +kernel
theorem dJ5_isLatin1_aae02_18 : decode cJ5_isLatin1_aae02 18 = .ok (.ireturn, 1) := by decide +kernel
theorem dJ5_inflateIfNeededFor_a7421_0 : decode cJ5_inflateIfNeededFor_a7421 0 = .ok (.getstatic 18, 3) := by decide +kernel
theorem dJ5_inflateIfNeededFor_a7421_3 : decode cJ5_inflateIfNeededFor_a7421 3 = .ok (.ifCond .eq 18, 3) := by decide +kernel
theorem dJ5_inflateIfNeededFor_a7421_6 : decode cJ5_inflateIfNeededFor_a7421 6 = .ok (.aload_n 0, 1) := by decide +kernel
theorem dJ5_inflateIfNeededFor_a7421_7 : decode cJ5_inflateIfNeededFor_a7421 7 = .ok (.getfield 22, 3) := by decide +kernel
theorem dJ5_inflateIfNeededFor_a7421_10 : decode cJ5_inflateIfNeededFor_a7421 10 = .ok (.aload_n 1, 1) := by decide +kernel
theorem dJ5_inflateIfNeededFor_a7421_11 : decode cJ5_inflateIfNeededFor_a7421 11 = .ok (.invokevirtual 40, 3) := by decide +kernel
theorem dJ5_inflateIfNeededFor_a7421_14 : decode cJ5_inflateIfNeededFor_a7421 14 = .ok (.if_icmp .eq 7, 3) := by decide +kernel
theorem dJ5_inflateIfNeededFor_a7421_17 : decode cJ5_inflateIfNeededFor_a7421 17 = .ok (.aload_n 0, 1) := by decide +kernel
theorem dJ5_inflateIfNeededFor_a7421_18 : decode cJ5_inflateIfNeededFor_a7421 18 = .ok (.invokevirtual 195, 3) := by decide +kernel
theorem dJ5_inflateIfNeededFor_a7421_21 : decode cJ5_inflateIfNeededFor_a7421 21 = .ok (.return_, 1) := by decide +kernel
theorem dJ5_putStringAt_47b60_0 : decode cJ5_putStringAt_47b60 0 = .ok (.aload_n 0, 1) := by decide +kernel
theorem dJ5_putStringAt_47b60_1 : decode cJ5_putStringAt_47b60 1 = .ok (.aload_n 2, 1) := by decide +kernel
theorem dJ5_putStringAt_47b60_2 : decode cJ5_putStringAt_47b60 2 = .ok (.invokevirtual 397, 3) := by decide +kernel
theorem dJ5_putStringAt_47b60_5 : decode cJ5_putStringAt_47b60 5 = .ok (.aload_n 2, 1) := by decide +kernel
theorem dJ5_putStringAt_47b60_6 : decode cJ5_putStringAt_47b60 6 = .ok (.aload_n 0, 1) := by decide +kernel
theorem dJ5_putStringAt_47b60_7 : decode cJ5_putStringAt_47b60 7 = .ok (.getfield 15, 3) := by decide +kernel
theorem dJ5_putStringAt_47b60_10 : decode cJ5_putStringAt_47b60 10 = .ok (.iload_n 1, 1) := by decide +kernel
theorem dJ5_putStringAt_47b60_11 : decode cJ5_putStringAt_47b60 11 = .ok (.aload_n 0, 1) := by decide +kernel
theorem dJ5_putStringAt_47b60_12 : decode cJ5_putStringAt_47b60 12 = .ok (.getfield 22, 3) := by decide +kernel
theorem dJ5_putStringAt_47b60_15 : decode cJ5_putStringAt_47b60 15 = .ok (.invokevirtual 399, 3) := by decide +kernel
theorem dJ5_putStringAt_47b60_18 : decode cJ5_putStringAt_47b60 18 = .ok (.return_, 1) := by decide +kernel
theorem dJx00060_init_a7421_0 : decode cJx00060_init_a7421 0 = .ok (.aload_n 0, 1) := by decide +kernel
theorem dJx00060_init_a7421_1 : decode cJx00060_init_a7421 1 = .ok (.aload_n 1, 1) := by decide +kernel
theorem dJx00060_init_a7421_2 : decode cJx00060_init_a7421 2 = .ok (.invokespecial 7, 3) := by decide +kernel
theorem dJx00060_init_a7421_5 : decode cJx00060_init_a7421 5 = .ok (.return_, 1) := by decide +kernel
theorem dJ11_isValidCodePoint_9a6ad_0 : decode cJ11_isValidCodePoint_9a6ad 0 = .ok (.iload_n 0, 1) := by decide +kernel
theorem dJ11_isValidCodePoint_9a6ad_1 : decode cJ11_isValidCodePoint_9a6ad 1 = .ok (.bipush 16, 2) := by decide +kernel
theorem dJ11_isValidCodePoint_9a6ad_3 : decode cJ11_isValidCodePoint_9a6ad 3 = .ok (.iushr, 1) := by decide +kernel
theorem dJ11_isValidCodePoint_9a6ad_4 : decode cJ11_isValidCodePoint_9a6ad 4 = .ok (.istore_n 1, 1) := by decide +kernel
theorem dJ11_isValidCodePoint_9a6ad_5 : decode cJ11_isValidCodePoint_9a6ad 5 = .ok (.iload_n 1, 1) := by decide +kernel
theorem dJ11_isValidCodePoint_9a6ad_6 : decode cJ11_isValidCodePoint_9a6ad 6 = .ok (.bipush 17, 2) := by decide +kernel
theorem dJ11_isValidCodePoint_9a6ad_8 : decode cJ11_isValidCodePoint_9a6ad 8 = .ok (.if_icmp .ge 7, 3) := by decide +kernel
theorem dJ11_isValidCodePoint_9a6ad_11 : decode cJ11_isValidCodePoint_9a6ad 11 = .ok (.iconst 1, 1) := by decide +kernel
theorem dJ11_isValidCodePoint_9a6ad_12 : decode cJ11_isValidCodePoint_9a6ad 12 = .ok (.goto 4, 3) := by decide +kernel
theorem dJ11_isValidCodePoint_9a6ad_15 : decode cJ11_isValidCodePoint_9a6ad 15 = .ok (.iconst 0, 1) := by decide +kernel
theorem dJ11_isValidCodePoint_9a6ad_16 : decode cJ11_isValidCodePoint_9a6ad 16 = .ok (.ireturn, 1) := by decide +kernel
theorem dJ11_highSurrogate_5068e_0 : decode cJ11_highSurrogate_5068e 0 = .ok (.iload_n 0, 1) := by decide +kernel
theorem dJ11_highSurrogate_5068e_1 : decode cJ11_highSurrogate_5068e 1 = .ok (.bipush 10, 2) := by decide +kernel
theorem dJ11_highSurrogate_5068e_3 : decode cJ11_highSurrogate_5068e 3 = .ok (.iushr, 1) := by decide +kernel
theorem dJ11_highSurrogate_5068e_4 : decode cJ11_highSurrogate_5068e 4 = .ok (.ldc 110, 2) := by decide +kernel
theorem dJ11_highSurrogate_5068e_6 : decode cJ11_highSurrogate_5068e 6 = .ok (.iadd, 1) := by decide +kernel
theorem dJ11_highSurrogate_5068e_7 : decode cJ11_highSurrogate_5068e 7 = .ok (.i2c, 1) := by decide +kernel
theorem dJ11_highSurrogate_5068e_8 : decode cJ11_highSurrogate_5068e 8 = .ok (.ireturn, 1) := by decide +kernel
theorem dJ11_lowSurrogate_5068e_0 : decode cJ11_lowSurrogate_5068e 0 = .ok (.iload_n 0, 1) := by decide +kernel
theorem dJ11_lowSurrogate_5068e_1 : decode cJ11_lowSurrogate_5068e 1 = .ok (.sipush 1023, 3) := by decide +kernel
theorem dJ11_lowSurrogate_5068e_4 : decode cJ11_lowSurrogate_5068e 4 = .ok (.iand, 1) := by decide +kernel
theorem dJ11_lowSurrogate_5068e_5 : decode cJ11_lowSurrogate_5068e 5 = .ok (.ldc 76, 2) := by decide +kernel
theorem dJ11_lowSurrogate_5068e_7 : decode cJ11_lowSurrogate_5068e 7 = .ok (.iadd, 1) := by decide +kernel
theorem dJ11_lowSurrogate_5068e_8 : decode cJ11_lowSurrogate_5068e 8 = .ok (.i2c, 1) := by decide +kernel
theorem dJ11_lowSurrogate_5068e_9 : decode cJ11_lowSurrogate_5068e 9 = .ok (.ireturn, 1) := by decide +kernel
theorem dJ6_getChars_ba4f3_0 : decode cJ6_getChars_ba4f3 0 = .ok (.iload_n 1, 1) := by decide +kernel
theorem dJ6_getChars_ba4f3_1 : decode cJ6_getChars_ba4f3 1 = .ok (.istore 5, 2) := by decide +kernel
theorem dJ6_getChars_ba4f3_3 : decode cJ6_getChars_ba4f3 3 = .ok (.iload_n 0, 1) := by decide +kernel
theorem dJ6_getChars_ba4f3_4 : decode cJ6_getChars_ba4f3 4 = .ok (.ifCond .ge 7, 3) := by decide +kernel
theorem dJ6_getChars_ba4f3_7 : decode cJ6_getChars_ba4f3 7 = .ok (.iconst 1, 1) := by decide +kernel
theorem dJ6_getChars_ba4f3_8 : decode cJ6_getChars_ba4f3 8 = .ok (.goto 4, 3) := by decide +kernel
theorem dJ6_getChars_ba4f3_11 : decode cJ6_getChars_ba4f3 11 = .ok (.iconst 0, 1) := by decide +kernel
theorem dJ6_getChars_ba4f3_12 : decode cJ6_getChars_ba4f3 12 = .ok (.istore 6, 2) := by decide +kernel
theorem dJ6_getChars_ba4f3_14 : decode cJ6_getChars_ba4f3 14 = .ok (.iload 6, 2) := by decide +kernel
theorem dJ6_getChars_ba4f3_16 : decode cJ6_getChars_ba4f3 16 = .ok (.ifCond .ne 6, 3) := by decide +kernel
theorem dJ6_getChars_ba4f3_19 : decode cJ6_getChars_ba4f3 19 = .ok (.iload_n 0, 1) := by decide +kernel
theorem dJ6_getChars_ba4f3_20 : decode cJ6_getChars_ba4f3 20 = .ok (.ineg, 1) := by decide +kernel
theorem dJ6_getChars_ba4f3_21 : decode cJ6_getChars_ba4f3 21 = .ok (.istore_n 0, 1) := by decide +kernel
theorem dJ6_getChars_ba4f3_22 : decode cJ6_getChars_ba4f3 22 = .ok (.iload_n 0, 1) := by decide +kernel
theorem dJ6_getChars_ba4f3_23 : decode cJ6_getChars_ba4f3 23 = .ok (.bipush (-100), 2) := by decide +kernel
theorem dJ6_getChars_ba4f3_25 : decode cJ6_getChars_ba4f3 25 = .ok (.if_icmp .gt 47, 3) := by decide +kernel
theorem dJ6_getChars_ba4f3_28 : decode cJ6_getChars_ba4f3 28 = .ok (.iload_n 0, 1) := by decide +kernel
theorem dJ6_getChars_ba4f3_29 : decode cJ6_getChars_ba4f3 29 = .ok (.bipush 100, 2) := by decide +kernel
theorem dJ6_getChars_ba4f3_31 : decode cJ6_getChars_ba4f3 31 = .ok (.idiv, 1) := by decide +kernel
theorem dJ6_getChars_ba4f3_32 : decode cJ6_getChars_ba4f3 32 = .ok (.istore_n 3, 1) := by decide +kernel
theorem dJ6_getChars_ba4f3_33 : decode cJ6_getChars_ba4f3 33 = .ok (.iload_n 3, 1) := by decide +kernel
theorem dJ6_getChars_ba4f3_34 : decode cJ6_getChars_ba4f3 34 = .ok (.bipush 100, 2) := by decide +kernel
theorem dJ6_getChars_ba4f3_36 : decode cJ6_getChars_ba4f3 36 = .ok (.imul, 1) := by decide +kernel
theorem dJ6_getChars_ba4f3_37 : decode cJ6_getChars_ba4f3 37 = .ok (.iload_n 0, 1) := by decide +kernel
theorem dJ6_getChars_ba4f3_38 : decode cJ6_getChars_ba4f3 38 = .ok (.isub, 1) := by decide +kernel
theorem dJ6_getChars_ba4f3_39 : decode cJ6_getChars_ba4f3 39 = .ok (.istore 4, 2) := by decide +kernel
theorem dJ6_getChars_ba4f3_41 : decode cJ6_getChars_ba4f3 41 = .ok (.iload_n 3, 1) := by decide +kernel
theorem dJ6_getChars_ba4f3_42 : decode cJ6_getChars_ba4f3 42 = .ok (.istore_n 0, 1) := by decide +kernel
theorem dJ6_getChars_ba4f3_43 : decode cJ6_getChars_ba4f3 43 = .ok (.aload_n 2, 1) := by decide +kernel
theorem dJ6_getChars_ba4f3_44 : decode cJ6_getChars_ba4f3 44 = .ok (.iinc 5 (-1), 3) := by decide +kernel
theorem dJ6_getChars_ba4f3_47 : decode cJ6_getChars_ba4f3 47 = .ok (.iload 5, 2) := by decide +kernel
theorem dJ6_getChars_ba4f3_49 : decode cJ6_getChars_ba4f3 49 = .ok (.getstatic 83, 3) := by decide +kernel
theorem dJ6_getChars_ba4f3_52 : decode cJ6_getChars_ba4f3 52 = .ok (.iload 4, 2) := by decide +kernel
theorem dJ6_getChars_ba4f3_54 : decode cJ6_getChars_ba4f3 54 = .ok (.baload, 1) := by decide +kernel
theorem dJ6_getChars_ba4f3_55 : decode cJ6_getChars_ba4f3 55 = .ok (.bastore, 1) := by decide +kernel
theorem dJ6_getChars_ba4f3_56 : decode cJ6_getChars_ba4f3 56 = .ok (.aload_n 2, 1) := by decide +kernel
theorem dJ6_getChars_ba4f3_57 : decode cJ6_getChars_ba4f3 57 = .ok (.iinc 5 (-1), 3) := by decide +kernel
theorem dJ6_getChars_ba4f3_60 : decode cJ6_getChars_ba4f3 60 = .ok (.iload 5, 2) := by decide +kernel
theorem dJ6_getChars_ba4f3_62 : decode cJ6_getChars_ba4f3 62 = .ok (.getstatic 87, 3) := by decide +kernel
theorem dJ6_getChars_ba4f3_65 : decode cJ6_getChars_ba4f3 65 = .ok (.iload 4, 2) := by decide +kernel
theorem dJ6_getChars_ba4f3_67 : decode cJ6_getChars_ba4f3 67 = .ok (.baload, 1) := by decide +kernel
theorem dJ6_getChars_ba4f3_68 : decode cJ6_getChars_ba4f3 68 = .ok (.bastore, 1) := by decide +kernel
theorem dJ6_getChars_ba4f3_69 : decode cJ6_getChars_ba4f3 69 = .ok (.goto (-47), 3) := by decide +kernel
theorem dJ6_getChars_ba4f3_72 : decode cJ6_getChars_ba4f3 72 = .ok (.aload_n 2, 1) := by decide +kernel
theorem dJ6_getChars_ba4f3_73 : decode cJ6_getChars_ba4f3 73 = .ok (.iinc 5 (-1), 3) := by decide +kernel
theorem dJ6_getChars_ba4f3_76 : decode cJ6_getChars_ba4f3 76 = .ok (.iload 5, 2) := by decide +kernel
theorem dJ6_getChars_ba4f3_78 : decode cJ6_getChars_ba4f3 78 = .ok (.getstatic 83, 3) := by decide +kernel
theorem dJ6_getChars_ba4f3_81 : decode cJ6_getChars_ba4f3 81 = .ok (.iload_n 0, 1) := by decide +kernel
theorem dJ6_getChars_ba4f3_82 : decode cJ6_getChars_ba4f3 82 = .ok (.ineg, 1) := by decide +kernel
theorem dJ6_getChars_ba4f3_83 : decode cJ6_getChars_ba4f3 83 = .ok (.baload, 1) := by decide +kernel
theorem dJ6_getChars_ba4f3_84 : decode cJ6_getChars_ba4f3 84 = .ok (.bastore, 1) := by decide +kernel
theorem dJ6_getChars_ba4f3_85 : decode cJ6_getChars_ba4f3 85 = .ok (.iload_n 0, 1) := by decide +kernel
theorem dJ6_getChars_ba4f3_86 : decode cJ6_getChars_ba4f3 86 = .ok (.bipush (-9), 2) := by decide +kernel
theorem dJ6_getChars_ba4f3_88 : decode cJ6_getChars_ba4f3 88 = .ok (.if_icmp .ge 16, 3) := by decide +kernel
theorem dJ6_getChars_ba4f3_91 : decode cJ6_getChars_ba4f3 91 = .ok (.aload_n 2, 1) := by decide +kernel
theorem dJ6_getChars_ba4f3_92 : decode cJ6_getChars_ba4f3 92 = .ok (.iinc 5 (-1), 3) := by decide +kernel
theorem dJ6_getChars_ba4f3_95 : decode cJ6_getChars_ba4f3 95 = .ok (.iload 5, 2) := by decide +kernel
theorem dJ6_getChars_ba4f3_97 : decode cJ6_getChars_ba4f3 97 = .ok (.getstatic 87, 3) := by decide +kernel
theorem dJ6_getChars_ba4f3_100 : decode cJ6_getChars_ba4f3 100 = .ok (.iload_n 0, 1) := by decide +kernel
theorem dJ6_getChars_ba4f3_101 : decode cJ6_getChars_ba4f3 101 = .ok (.ineg, 1) := by decide +kernel
theorem dJ6_getChars_ba4f3_102 : decode cJ6_getChars_ba4f3 102 = .ok (.baload, 1) := by decide +kernel
theorem dJ6_getChars_ba4f3_103 : decode cJ6_getChars_ba4f3 103 = .ok (.bastore, 1) := by decide +kernel
theorem dJ6_getChars_ba4f3_104 : decode cJ6_getChars_ba4f3 104 = .ok (.iload 6, 2) := by decide +kernel
theorem dJ6_getChars_ba4f3_106 : decode cJ6_getChars_ba4f3 106 = .ok (.ifCond .eq 12, 3) := by decide +kernel
theorem dJ6_getChars_ba4f3_109 : decode cJ6_getChars_ba4f3 109 = .ok (.aload_n 2, 1) := by decide +kernel
theorem dJ6_getChars_ba4f3_110 : decode cJ6_getChars_ba4f3 110 = .ok (.iinc 5 (-1), 3) := by decide +kernel
theorem dJ6_getChars_ba4f3_113 : decode cJ6_getChars_ba4f3 113 = .ok (.iload 5, 2) := by decide +kernel
theorem dJ6_getChars_ba4f3_115 : decode cJ6_getChars_ba4f3 115 = .ok (.bipush 45, 2) := by decide +kernel
theorem dJ6_getChars_ba4f3_117 : decode cJ6_getChars_ba4f3 117 = .ok (.bastore, 1) := by decide +kernel
theorem dJ6_getChars_ba4f3_118 : decode cJ6_getChars_ba4f3 118 = .ok (.iload 5, 2) := by decide +kernel
theorem dJ6_getChars_ba4f3_120 : decode cJ6_getChars_ba4f3 120 = .ok (.ireturn, 1) := by decide +kernel
theorem dJ6_stringSize_0f7a4_0 : decode cJ6_stringSize_0f7a4 0 = .ok (.iconst 1, 1) := by decide +kernel
theorem dJ6_stringSize_0f7a4_1 : decode cJ6_stringSize_0f7a4 1 = .ok (.istore_n 1, 1) := by decide +kernel
theorem dJ6_stringSize_0f7a4_2 : decode cJ6_stringSize_0f7a4 2 = .ok (.iload_n 0, 1) := by decide +kernel
theorem dJ6_stringSize_0f7a4_3 : decode cJ6_stringSize_0f7a4 3 = .ok (.ifCond .lt 8, 3) := by decide +kernel
theorem dJ6_stringSize_0f7a4_6 : decode cJ6_stringSize_0f7a4 6 = .ok (.iconst 0, 1) := by decide +kernel
theorem dJ6_stringSize_0f7a4_7 : decode cJ6_stringSize_0f7a4 7 = .ok (.istore_n 1, 1) := by decide +kernel
theorem dJ6_stringSize_0f7a4_8 : decode cJ6_stringSize_0f7a4 8 = .ok (.iload_n 0, 1) := by decide +kernel
theorem dJ6_stringSize_0f7a4_9 : decode cJ6_stringSize_0f7a4 9 = .ok (.ineg, 1) := by decide +kernel
theorem dJ6_stringSize_0f7a4_10 : decode cJ6_stringSize_0f7a4 10 = .ok (.istore_n 0, 1) := by decide +kernel
theorem dJ6_stringSize_0f7a4_11 : decode cJ6_stringSize_0f7a4 11 = .ok (.bipush (-10), 2) := by decide +kernel
theorem dJ6_stringSize_0f7a4_13 : decode cJ6_stringSize_0f7a4 13 = .ok (.istore_n 2, 1) := by decide +kernel
theorem dJ6_stringSize_0f7a4_14 : decode cJ6_stringSize_0f7a4 14 = .ok (.iconst 1, 1) := by decide +kernel
theorem dJ6_stringSize_0f7a4_15 : decode cJ6_stringSize_0f7a4 15 = .ok (.istore_n 3, 1) := by decide +kernel
theorem dJ6_stringSize_0f7a4_16 : decode cJ6_stringSize_0f7a4 16 = .ok (.iload_n 3, 1) := by decide +kernel
theorem dJ6_stringSize_0f7a4_17 : decode cJ6_stringSize_0f7a4 17 = .ok (.bipush 10, 2) := by decide +kernel
theorem dJ6_stringSize_0f7a4_19 : decode cJ6_stringSize_0f7a4 19 = .ok (.if_icmp .ge 23, 3) := by decide +kernel
theorem dJ6_stringSize_0f7a4_22 : decode cJ6_stringSize_0f7a4 22 = .ok (.iload_n 0, 1) := by decide +kernel
theorem dJ6_stringSize_0f7a4_23 : decode cJ6_stringSize_0f7a4 23 = .ok (.iload_n 2, 1) := by decide +kernel
theorem dJ6_stringSize_0f7a4_24 : decode cJ6_stringSize_0f7a4 24 = .ok (.if_icmp .le 7, 3) := by decide +kernel
theorem dJ6_stringSize_0f7a4_27 : decode cJ6_stringSize_0f7a4 27 = .ok (.iload_n 3, 1) := by decide +kernel
theorem dJ6_stringSize_0f7a4_28 : decode cJ6_stringSize_0f7a4 28 = .ok (.iload_n 1, 1) := by decide +kernel
theorem dJ6_stringSize_0f7a4_29 : decode cJ6_stringSize_0f7a4 29 = .ok (.iadd, 1) := by decide +kernel
theorem dJ6_stringSize_0f7a4_30 : decode cJ6_stringSize_0f7a4 30 = .ok (.ireturn, 1) := by decide +kernel
theorem dJ6_stringSize_0f7a4_31 : decode cJ6_stringSize_0f7a4 31 = .ok (.bipush 10, 2) := by decide +kernel
theorem dJ6_stringSize_0f7a4_33 : decode cJ6_stringSize_0f7a4 33 = .ok (.iload_n 2, 1) := by decide +kernel
theorem dJ6_stringSize_0f7a4_34 : decode cJ6_stringSize_0f7a4 34 = .ok (.imul, 1) := by decide +kernel
theorem dJ6_stringSize_0f7a4_35 : decode cJ6_stringSize_0f7a4 35 = .ok (.istore_n 2, 1) := by decide +kernel
theorem dJ6_stringSize_0f7a4_36 : decode cJ6_stringSize_0f7a4 36 = .ok (.iinc 3 1, 3) := by decide +kernel
theorem dJ6_stringSize_0f7a4_39 : decode cJ6_stringSize_0f7a4 39 = .ok (.goto (-23), 3) := by decide +kernel
theorem dJ6_stringSize_0f7a4_42 : decode cJ6_stringSize_0f7a4 42 = .ok (.bipush 10, 2) := by decide +kernel
theorem dJ6_stringSize_0f7a4_44 : decode cJ6_stringSize_0f7a4 44 = .ok (.iload_n 1, 1) := by decide +kernel
theorem dJ6_stringSize_0f7a4_45 : decode cJ6_stringSize_0f7a4 45 = .ok (.iadd, 1) := by decide +kernel
theorem dJ6_stringSize_0f7a4_46 : decode cJ6_stringSize_0f7a4 46 = .ok (.ireturn, 1) := by decide +kernel
theorem dJ6_bitCount_0f7a4_0 : decode cJ6_bitCount_0f7a4 0 = .ok (.iload_n 0, 1) := by decide +kernel
theorem dJ6_bitCount_0f7a4_1 : decode cJ6_bitCount_0f7a4 1 = .ok (.iload_n 0, 1) := by decide +kernel
theorem dJ6_bitCount_0f7a4_2 : decode cJ6_bitCount_0f7a4 2 = .ok (.iconst 1, 1) := by decide +kernel
theorem dJ6_bitCount_0f7a4_3 : decode cJ6_bitCount_0f7a4 3 = .ok (.iushr, 1) := by decide +kernel
theorem dJ6_bitCount_0f7a4_4 : decode cJ6_bitCount_0f7a4 4 = .ok (.ldc_w 265, 3) := by decide +kernel
theorem dJ6_bitCount_0f7a4_7 : decode cJ6_bitCount_0f7a4 7 = .ok (.iand, 1) := by decide +kernel
theorem dJ6_bitCount_0f7a4_8 : decode cJ6_bitCount_0f7a4 8 = .ok (.isub, 1) := by decide +kernel
theorem dJ6_bitCount_0f7a4_9 : decode cJ6_bitCount_0f7a4 9 = .ok (.istore_n 0, 1) := by decide +kernel
theorem dJ6_bitCount_0f7a4_10 : decode cJ6_bitCount_0f7a4 10 = .ok (.iload_n 0, 1) := by decide +kernel
theorem dJ6_bitCount_0f7a4_11 : decode cJ6_bitCount_0f7a4 11 = .ok (.ldc_w 266, 3) := by decide +kernel
theorem dJ6_bitCount_0f7a4_14 : decode cJ6_bitCount_0f7a4 14 = .ok (.iand, 1) := by decide +kernel
theorem dJ6_bitCount_0f7a4_15 : decode cJ6_bitCount_0f7a4 15 = .ok (.iload_n 0, 1) := by decide +kernel
theorem dJ6_bitCount_0f7a4_16 : decode cJ6_bitCount_0f7a4 16 = .ok (.iconst 2, 1) := by decide +kernel
theorem dJ6_bitCount_0f7a4_17 : decode cJ6_bitCount_0f7a4 17 = .ok (.iushr, 1) := by decide +kernel
theorem dJ6_bitCount_0f7a4_18 : decode cJ6_bitCount_0f7a4 18 = .ok (.ldc_w 266, 3) := by decide +kernel
theorem dJ6_bitCount_0f7a4_21 : decode cJ6_bitCount_0f7a4 21 = .ok (.iand, 1) := by decide +kernel
theorem dJ6_bitCount_0f7a4_22 : decode cJ6_bitCount_0f7a4 22 = .ok (.iadd, 1) := by decide +kernel
theorem dJ6_bitCount_0f7a4_23 : decode cJ6_bitCount_0f7a4 23 = .ok (.istore_n 0, 1) := by decide +kernel
theorem dJ6_bitCount_0f7a4_24 : decode cJ6_bitCount_0f7a4 24 = .ok (.iload_n 0, 1) := by decide +kernel
theorem dJ6_bitCount_0f7a4_25 : decode cJ6_bitCount_0f7a4 25 = .ok (.iload_n 0, 1) := by decide +kernel
theorem dJ6_bitCount_0f7a4_26 : decode cJ6_bitCount_0f7a4 26 = .ok (.iconst 4, 1) := by decide +kernel
theorem dJ6_bitCount_0f7a4_27 : decode cJ6_bitCount_0f7a4 27 = .ok (.iushr, 1) := by decide +kernel
theorem dJ6_bitCount_0f7a4_28 : decode cJ6_bitCount_0f7a4 28 = .ok (.iadd, 1) := by decide +kernel
theorem dJ6_bitCount_0f7a4_29 : decode cJ6_bitCount_0f7a4 29 = .ok (.ldc_w 267, 3) := by decide +kernel
theorem dJ6_bitCount_0f7a4_32 : decode cJ6_bitCount_0f7a4 32 = .ok (.iand, 1) := by decide +kernel
theorem dJ6_bitCount_0f7a4_33 : decode cJ6_bitCount_0f7a4 33 = .ok (.istore_n 0, 1) := by decide +kernel
theorem dJ6_bitCount_0f7a4_34 : decode cJ6_bitCount_0f7a4 34 = .ok (.iload_n 0, 1) := by decide +kernel
theorem dJ6_bitCount_0f7a4_35 : decode cJ6_bitCount_0f7a4 35 = .ok (.iload_n 0, 1) := by decide +kernel
theorem dJ6_bitCount_0f7a4_36 : decode cJ6_bitCount_0f7a4 36 = .ok (.bipush 8, 2) := by decide +kernel
theorem dJ6_bitCount_0f7a4_38 : decode cJ6_bitCount_0f7a4 38 = .ok (.iushr, 1) := by decide +kernel
theorem dJ6_bitCount_0f7a4_39 : decode cJ6_bitCount_0f7a4 39 = .ok (.iadd, 1) := by decide +kernel
theorem dJ6_bitCount_0f7a4_40 : decode cJ6_bitCount_0f7a4 40 = .ok (.istore_n 0, 1) := by decide +kernel
theorem dJ6_bitCount_0f7a4_41 : decode cJ6_bitCount_0f7a4 41 = .ok (.iload_n 0, 1) := by decide +kernel
theorem dJ6_bitCount_0f7a4_42 : decode cJ6_bitCount_0f7a4 42 = .ok (.iload_n 0, 1) := by decide +kernel
theorem dJ6_bitCount_0f7a4_43 : decode cJ6_bitCount_0f7a4 43 = .ok (.bipush 16, 2) := by decide +kernel
theorem dJ6_bitCount_0f7a4_45 : decode cJ6_bitCount_0f7a4 45 = .ok (.iushr, 1) := by decide +kernel
theorem dJ6_bitCount_0f7a4_46 : decode cJ6_bitCount_0f7a4 46 = .ok (.iadd, 1) := by decide +kernel
theorem dJ6_bitCount_0f7a4_47 : decode cJ6_bitCount_0f7a4 47 = .ok (.istore_n 0, 1) := by decide +kernel
theorem dJ6_bitCount_0f7a4_48 : decode cJ6_bitCount_0f7a4 48 = .ok (.iload_n 0, 1) := by decide +kernel
theorem dJ6_bitCount_0f7a4_49 : decode cJ6_bitCount_0f7a4 49 = .ok (.bipush 63, 2) := by decide +kernel
theorem dJ6_bitCount_0f7a4_51 : decode cJ6_bitCount_0f7a4 51 = .ok (.iand, 1) := by decide +kernel
theorem dJ6_bitCount_0f7a4_52 : decode cJ6_bitCount_0f7a4 52 = .ok (.ireturn, 1) := by decide +kernel
theorem dJ9_abs_0f7a4_0 : decode cJ9_abs_0f7a4 0 = .ok (.iload_n 0, 1) := by decide +kernel
theorem dJ9_abs_0f7a4_1 : decode cJ9_abs_0f7a4 1 = .ok (.ifCond .ge 8, 3) := by decide +kernel
theorem dJ9_abs_0f7a4_4 : decode cJ9_abs_0f7a4 4 = .ok (.iload_n 0, 1) := by decide +kernel
theorem dJ9_abs_0f7a4_5 : decode cJ9_abs_0f7a4 5 = .ok (.ineg, 1) := by decide +kernel
theorem dJ9_abs_0f7a4_6 : decode cJ9_abs_0f7a4 6 = .ok (.goto 4, 3) := by decide +kernel
theorem dJ9_abs_0f7a4_9 : decode cJ9_abs_0f7a4 9 = .ok (.iload_n 0, 1) := by decide +kernel
theorem dJ9_abs_0f7a4_10 : decode cJ9_abs_0f7a4 10 = .ok (.ireturn, 1) := by decide +kernel
theorem dJ9_max_7cf53_0 : decode cJ9_max_7cf53 0 = .ok (.iload_n 0, 1) := by decide +kernel
theorem dJ9_max_7cf53_1 : decode cJ9_max_7cf53 1 = .ok (.iload_n 1, 1) := by decide +kernel
theorem dJ9_max_7cf53_2 : decode cJ9_max_7cf53 2 = .ok (.if_icmp .lt 7, 3) := by decide +kernel
theorem dJ9_max_7cf53_5 : decode cJ9_max_7cf53 5 = .ok (.iload_n 0, 1) := by decide +kernel
theorem dJ9_max_7cf53_6 : decode cJ9_max_7cf53 6 = .ok (.goto 4, 3) := by decide +kernel
theorem dJ9_max_7cf53_9 : decode cJ9_max_7cf53 9 = .ok (.iload_n 1, 1) := by decide +kernel
theorem dJ9_max_7cf53_10 : decode cJ9_max_7cf53 10 = .ok (.ireturn, 1) := by decide +kernel
theorem dJ9_min_7cf53_0 : decode cJ9_min_7cf53 0 = .ok (.iload_n 0, 1) := by decide +kernel
theorem dJ9_min_7cf53_1 : decode cJ9_min_7cf53 1 = .ok (.iload_n 1, 1) := by decide +kernel
theorem dJ9_min_7cf53_2 : decode cJ9_min_7cf53 2 = .ok (.if_icmp .gt 7, 3) := by decide +kernel
theorem dJ9_min_7cf53_5 : decode cJ9_min_7cf53 5 = .ok (.iload_n 0, 1) := by decide +kernel
theorem dJ9_min_7cf53_6 : decode cJ9_min_7cf53 6 = .ok (.goto 4, 3) := by decide +kernel
theorem dJ9_min_7cf53_9 : decode cJ9_min_7cf53 9 = .ok (.iload_n 1, 1) := by decide +kernel
theorem dJ9_min_7cf53_10 : decode cJ9_min_7cf53 10 = .ok (.ireturn, 1) := by decide +kernel
theorem dJ0_init_81219_0 : decode cJ0_init_81219 0 = .ok (.aload_n 0, 1) := by decide +kernel
theorem dJ0_init_81219_1 : decode cJ0_init_81219 1 = .ok (.aload_n 1, 1) := by decide +kernel
theorem dJ0_init_81219_2 : decode cJ0_init_81219 2 = .ok (.aconst_null, 1) := by decide +kernel
theorem dJ0_init_81219_3 : decode cJ0_init_81219 3 = .ok (.invokespecial 489, 3) := by decide +kernel
theorem dJ0_init_81219_6 : decode cJ0_init_81219 6 = .ok (.return_, 1) := by decide +kernel
theorem dJ0_length_8abf5_0 : decode cJ0_length_8abf5 0 = .ok (.aload_n 0, 1) := by decide +kernel
theorem dJ0_length_8abf5_1 : decode cJ0_length_8abf5 1 = .ok (.getfield 9, 3) := by decide +kernel
theorem dJ0_length_8abf5_4 : decode cJ0_length_8abf5 4 = .ok (.arraylength, 1) := by decide +kernel
theorem dJ0_length_8abf5_5 : decode cJ0_length_8abf5 5 = .ok (.aload_n 0, 1) := by decide +kernel
theorem dJ0_length_8abf5_6 : decode cJ0_length_8abf5 6 = .ok (.invokevirtual 335, 3) := by decide +kernel
theorem dJ0_length_8abf5_9 : decode cJ0_length_8abf5 9 = .ok (.ishr, 1) := by decide +kernel
theorem dJ0_length_8abf5_10 : decode cJ0_length_8abf5 10 = .ok (.ireturn, 1) := by decide +kernel
theorem dJ0_charAt_5068e_0 : decode cJ0_charAt_5068e 0 = .ok (.aload_n 0, 1) := by decide +kernel
theorem dJ0_charAt_5068e_1 : decode cJ0_charAt_5068e 1 = .ok (.invokevirtual 492, 3) := by decide +kernel
theorem dJ0_charAt_5068e_4 : decode cJ0_charAt_5068e 4 = .ok (.ifCond .eq 12, 3) := by decide +kernel
theorem dJ0_charAt_5068e_7 : decode cJ0_charAt_5068e 7 = .ok (.aload_n 0, 1) := by decide +kernel
theorem dJ0_charAt_5068e_8 : decode cJ0_charAt_5068e 8 = .ok (.getfield 9, 3) := by decide +kernel
theorem dJ0_charAt_5068e_11 : decode cJ0_charAt_5068e 11 = .ok (.iload_n 1, 1) := by decide +kernel
theorem dJ0_charAt_5068e_12 : decode cJ0_charAt_5068e 12 = .ok (.invokestatic 495, 3) := by decide +kernel
theorem dJ0_charAt_5068e_15 : decode cJ0_charAt_5068e 15 = .ok (.ireturn, 1) := by decide +kernel
theorem dJ0_charAt_5068e_16 : decode cJ0_charAt_5068e 16 = .ok (.aload_n 0, 1) := by decide +kernel
theorem dJ0_charAt_5068e_17 : decode cJ0_charAt_5068e 17 = .ok (.getfield 9, 3) := by decide +kernel
theorem dJ0_charAt_5068e_20 : decode cJ0_charAt_5068e 20 = .ok (.iload_n 1, 1) := by decide +kernel
theorem dJ0_charAt_5068e_21 : decode cJ0_charAt_5068e 21 = .ok (.invokestatic 498, 3) := by decide +kernel
theorem dJ0_charAt_5068e_24 : decode cJ0_charAt_5068e 24 = .ok (.ireturn, 1) := by decide +kernel
theorem dJ0_indexOf_0f7a4_0 : decode cJ0_indexOf_0f7a4 0 = .ok (.aload_n 0, 1) := by decide +kernel
theorem dJ0_indexOf_0f7a4_1 : decode cJ0_indexOf_0f7a4 1 = .ok (.iload_n 1, 1) := by decide +kernel
theorem dJ0_indexOf_0f7a4_2 : decode cJ0_indexOf_0f7a4 2 = .ok (.iconst 0, 1) := by decide +kernel
theorem dJ0_indexOf_0f7a4_3 : decode cJ0_indexOf_0f7a4 3 = .ok (.invokevirtual 633, 3) := by decide +kernel
theorem dJ0_indexOf_0f7a4_6 : decode cJ0_indexOf_0f7a4 6 = .ok (.ireturn, 1) := by decide +kernel
theorem dJ0_indexOf_7cf53_0 : decode cJ0_indexOf_7cf53 0 = .ok (.aload_n 0, 1) := by decide +kernel
theorem dJ0_indexOf_7cf53_1 : decode cJ0_indexOf_7cf53 1 = .ok (.invokevirtual 492, 3) := by decide +kernel
theorem dJ0_indexOf_7cf53_4 : decode cJ0_indexOf_7cf53 4 = .ok (.ifCond .eq 19, 3) := by decide +kernel
theorem dJ0_indexOf_7cf53_7 : decode cJ0_indexOf_7cf53 7 = .ok (.aload_n 0, 1) := by decide +kernel
theorem dJ0_indexOf_7cf53_8 : decode cJ0_indexOf_7cf53 8 = .ok (.getfield 9, 3) := by decide +kernel
theorem dJ0_indexOf_7cf53_11 : decode cJ0_indexOf_7cf53 11 = .ok (.iload_n 1, 1) := by decide +kernel
theorem dJ0_indexOf_7cf53_12 : decode cJ0_indexOf_7cf53 12 = .ok (.iload_n 2, 1) := by decide +kernel
theorem dJ0_indexOf_7cf53_13 : decode cJ0_indexOf_7cf53 13 = .ok (.aload_n 0, 1) := by decide +kernel
theorem dJ0_indexOf_7cf53_14 : decode cJ0_indexOf_7cf53 14 = .ok (.invokevirtual 505, 3) := by decide +kernel
theorem dJ0_indexOf_7cf53_17 : decode cJ0_indexOf_7cf53 17 = .ok (.invokestatic 637, 3) := by decide +kernel
theorem dJ0_indexOf_7cf53_20 : decode cJ0_indexOf_7cf53 20 = .ok (.goto 16, 3) := by decide +kernel
theorem dJ0_indexOf_7cf53_23 : decode cJ0_indexOf_7cf53 23 = .ok (.aload_n 0, 1) := by decide +kernel
theorem dJ0_indexOf_7cf53_24 : decode cJ0_indexOf_7cf53 24 = .ok (.getfield 9, 3) := by decide +kernel
theorem dJ0_indexOf_7cf53_27 : decode cJ0_indexOf_7cf53 27 = .ok (.iload_n 1, 1) := by decide +kernel
theorem dJ0_indexOf_7cf53_28 : decode cJ0_indexOf_7cf53 28 = .ok (.iload_n 2, 1) := by decide +kernel
theorem dJ0_indexOf_7cf53_29 : decode cJ0_indexOf_7cf53 29 = .ok (.aload_n 0, 1) := by decide +kernel
theorem dJ0_indexOf_7cf53_30 : decode cJ0_indexOf_7cf53 30 = .ok (.invokevirtual 505, 3) := by decide +kernel
theorem dJ0_indexOf_7cf53_33 : decode cJ0_indexOf_7cf53 33 = .ok (.invokestatic 640, 3) := by decide +kernel
theorem dJ0_indexOf_7cf53_36 : decode cJ0_indexOf_7cf53 36 = .ok (.ireturn, 1) := by decide +kernel
theorem dJ0_getBytes_840e7_0 : decode cJ0_getBytes_840e7 0 = .ok (.aload_n 0, 1) := by decide +kernel
theorem dJ0_getBytes_840e7_1 : decode cJ0_getBytes_840e7 1 = .ok (.invokevirtual 335, 3) := by decide +kernel
theorem dJ0_getBytes_840e7_4 : decode cJ0_getBytes_840e7 4 = .ok (.iload_n 3, 1) := by decide +kernel
theorem dJ0_getBytes_840e7_5 : decode cJ0_getBytes_840e7 5 = .ok (.if_icmp .ne 23, 3) := by decide +kernel
theorem dJ0_getBytes_840e7_8 : decode cJ0_getBytes_840e7 8 = .ok (.aload_n 0, 1) := by decide +kernel
theorem dJ0_getBytes_840e7_9 : decode cJ0_getBytes_840e7 9 = .ok (.getfield 9, 3) := by decide +kernel
theorem dJ0_getBytes_840e7_12 : decode cJ0_getBytes_840e7 12 = .ok (.iconst 0, 1) := by decide +kernel
theorem dJ0_getBytes_840e7_13 : decode cJ0_getBytes_840e7 13 = .ok (.aload_n 1, 1) := by decide +kernel
theorem dJ0_getBytes_840e7_14 : decode cJ0_getBytes_840e7 14 = .ok (.iload_n 2, 1) := by decide +kernel
theorem dJ0_getBytes_840e7_15 : decode cJ0_getBytes_840e7 15 = .ok (.iload_n 3, 1) := by decide +kernel
theorem dJ0_getBytes_840e7_16 : decode cJ0_getBytes_840e7 16 = .ok (.ishl, 1) := by decide +kernel
theorem dJ0_getBytes_840e7_17 : decode cJ0_getBytes_840e7 17 = .ok (.aload_n 0, 1) := by decide +kernel
theorem dJ0_getBytes_840e7_18 : decode cJ0_getBytes_840e7 18 = .ok (.getfield 9, 3) := by decide +kernel
theorem dJ0_getBytes_840e7_21 : decode cJ0_getBytes_840e7 21 = .ok (.arraylength, 1) := by decide +kernel
theorem dJ0_getBytes_840e7_22 : decode cJ0_getBytes_840e7 22 = .ok (.invokestatic 212, 3) := by decide +kernel
theorem dJ0_getBytes_840e7_25 : decode cJ0_getBytes_840e7 25 = .ok (.goto 18, 3) := by decide +kernel
theorem dJ0_getBytes_840e7_28 : decode cJ0_getBytes_840e7 28 = .ok (.aload_n 0, 1) := by decide +kernel
theorem dJ0_getBytes_840e7_29 : decode cJ0_getBytes_840e7 29 = .ok (.getfield 9, 3) := by decide +kernel
theorem dJ0_getBytes_840e7_32 : decode cJ0_getBytes_840e7 32 = .ok (.iconst 0, 1) := by decide +kernel
theorem dJ0_getBytes_840e7_33 : decode cJ0_getBytes_840e7 33 = .ok (.aload_n 1, 1) := by decide +kernel
theorem dJ0_getBytes_840e7_34 : decode cJ0_getBytes_840e7 34 = .ok (.iload_n 2, 1) := by decide +kernel
theorem dJ0_getBytes_840e7_35 : decode cJ0_getBytes_840e7 35 = .ok (.aload_n 0, 1) := by decide +kernel
theorem dJ0_getBytes_840e7_36 : decode cJ0_getBytes_840e7 36 = .ok (.getfield 9, 3) := by decide +kernel
theorem dJ0_getBytes_840e7_39 : decode cJ0_getBytes_840e7 39 = .ok (.arraylength, 1) := by decide +kernel
theorem dJ0_getBytes_840e7_40 : decode cJ0_getBytes_840e7 40 = .ok (.invokestatic 106, 3) := by decide +kernel
theorem dJ0_getBytes_840e7_43 : decode cJ0_getBytes_840e7 43 = .ok (.return_, 1) := by decide +kernel
theorem dJ0_init_db425_0 : decode cJ0_init_db425 0 = .ok (.aload_n 0, 1) := by decide +kernel
theorem dJ0_init_db425_1 : decode cJ0_init_db425 1 = .ok (.invokespecial 1, 3) := by decide +kernel
theorem dJ0_init_db425_4 : decode cJ0_init_db425 4 = .ok (.aload_n 1, 1) := by decide +kernel
theorem dJ0_init_db425_5 : decode cJ0_init_db425 5 = .ok (.invokevirtual 552, 3) := by decide +kernel
theorem dJ0_init_db425_8 : decode cJ0_init_db425 8 = .ok (.astore_n 3, 1) := by decide +kernel
theorem dJ0_init_db425_9 : decode cJ0_init_db425 9 = .ok (.aload_n 1, 1) := by decide +kernel
theorem dJ0_init_db425_10 : decode cJ0_init_db425 10 = .ok (.invokevirtual 549, 3) := by decide +kernel
theorem dJ0_init_db425_13 : decode cJ0_init_db425 13 = .ok (.istore 4, 2) := by decide +kernel
theorem dJ0_init_db425_15 : decode cJ0_init_db425 15 = .ok (.aload_n 1, 1) := by decide +kernel
theorem dJ0_init_db425_16 : decode cJ0_init_db425 16 = .ok (.invokevirtual 1047, 3) := by decide +kernel
theorem dJ0_init_db425_19 : decode cJ0_init_db425 19 = .ok (.ifCond .eq 22, 3) := by decide +kernel
theorem dJ0_init_db425_22 : decode cJ0_init_db425 22 = .ok (.aload_n 0, 1) := by decide +kernel
theorem dJ0_init_db425_23 : decode cJ0_init_db425 23 = .ok (.iconst 0, 1) := by decide +kernel
theorem dJ0_init_db425_24 : decode cJ0_init_db425 24 = .ok (.putfield 15, 3) := by decide +kernel
theorem dJ0_init_db425_27 : decode cJ0_init_db425 27 = .ok (.aload_n 0, 1) := by decide +kernel
theorem dJ0_init_db425_28 : decode cJ0_init_db425 28 = .ok (.aload_n 3, 1) := by decide +kernel
theorem dJ0_init_db425_29 : decode cJ0_init_db425 29 = .ok (.iconst 0, 1) := by decide +kernel
theorem dJ0_init_db425_30 : decode cJ0_init_db425 30 = .ok (.iload 4, 2) := by decide +kernel
theorem dJ0_init_db425_32 : decode cJ0_init_db425 32 = .ok (.invokestatic 54, 3) := by decide +kernel
theorem dJ0_init_db425_35 : decode cJ0_init_db425 35 = .ok (.putfield 9, 3) := by decide +kernel
theorem dJ0_init_db425_38 : decode cJ0_init_db425 38 = .ok (.goto 59, 3) := by decide +kernel
theorem dJ0_init_db425_41 : decode cJ0_init_db425 41 = .ok (.getstatic 38, 3) := by decide +kernel
theorem dJ0_init_db425_44 : decode cJ0_init_db425 44 = .ok (.ifCond .eq 35, 3) := by decide +kernel
theorem dJ0_init_db425_47 : decode cJ0_init_db425 47 = .ok (.aload_n 1, 1) := by decide +kernel
theorem dJ0_init_db425_48 : decode cJ0_init_db425 48 = .ok (.getfield 1048, 3) := by decide +kernel
theorem dJ0_init_db425_51 : decode cJ0_init_db425 51 = .ok (.ifCond .eq 28, 3) := by decide +kernel
theorem dJ0_init_db425_54 : decode cJ0_init_db425 54 = .ok (.aload_n 0, 1) := by decide +kernel
theorem dJ0_init_db425_55 : decode cJ0_init_db425 55 = .ok (.aload_n 3, 1) := by decide +kernel
theorem dJ0_init_db425_56 : decode cJ0_init_db425 56 = .ok (.iconst 0, 1) := by decide +kernel
theorem dJ0_init_db425_57 : decode cJ0_init_db425 57 = .ok (.iload 4, 2) := by decide +kernel
theorem dJ0_init_db425_59 : decode cJ0_init_db425 59 = .ok (.invokestatic 1051, 3) := by decide +kernel
theorem dJ0_init_db425_62 : decode cJ0_init_db425 62 = .ok (.putfield 9, 3) := by decide +kernel
theorem dJ0_init_db425_65 : decode cJ0_init_db425 65 = .ok (.aload_n 0, 1) := by decide +kernel
theorem dJ0_init_db425_66 : decode cJ0_init_db425 66 = .ok (.aload_n 0, 1) := by decide +kernel
theorem dJ0_init_db425_67 : decode cJ0_init_db425 67 = .ok (.getfield 9, 3) := by decide +kernel
theorem dJ0_init_db425_70 : decode cJ0_init_db425 70 = .ok (.iload 4, 2) := by decide +kernel
theorem dJ0_init_db425_72 : decode cJ0_init_db425 72 = .ok (.invokestatic 47, 3) := by decide +kernel
theorem dJ0_init_db425_75 : decode cJ0_init_db425 75 = .ok (.putfield 15, 3) := by decide +kernel
theorem dJ0_init_db425_78 : decode cJ0_init_db425 78 = .ok (.return_, 1) := by decide +kernel
theorem dJ0_init_db425_79 : decode cJ0_init_db425 79 = .ok (.aload_n 0, 1) := by decide +kernel
theorem dJ0_init_db425_80 : decode cJ0_init_db425 80 = .ok (.iconst 1, 1) := by decide +kernel
theorem dJ0_init_db425_81 : decode cJ0_init_db425 81 = .ok (.putfield 15, 3) := by decide +kernel
theorem dJ0_init_db425_84 : decode cJ0_init_db425 84 = .ok (.aload_n 0, 1) := by decide +kernel
theorem dJ0_init_db425_85 : decode cJ0_init_db425 85 = .ok (.aload_n 3, 1) := by decide +kernel
theorem dJ0_init_db425_86 : decode cJ0_init_db425 86 = .ok (.iconst 0, 1) := by decide +kernel
theorem dJ0_init_db425_87 : decode cJ0_init_db425 87 = .ok (.iload 4, 2) := by decide +kernel
theorem dJ0_init_db425_89 : decode cJ0_init_db425 89 = .ok (.iconst 1, 1) := by decide +kernel
theorem dJ0_init_db425_90 : decode cJ0_init_db425 90 = .ok (.ishl, 1) := by decide +kernel
theorem dJ0_init_db425_91 : decode cJ0_init_db425 91 = .ok (.invokestatic 54, 3) := by decide +kernel
theorem dJ0_init_db425_94 : decode cJ0_init_db425 94 = .ok (.putfield 9, 3) := by decide +kernel
theorem dJ0_init_db425_97 : decode cJ0_init_db425 97 = .ok (.return_, 1) := by decide +kernel
theorem dJ0_coder_7d493_0 : decode cJ0_coder_7d493 0 = .ok (.getstatic 38, 3) := by decide +kernel
theorem dJ0_coder_7d493_3 : decode cJ0_coder_7d493 3 = .ok (.ifCond .eq 10, 3) := by decide +kernel
theorem dJ0_coder_7d493_6 : decode cJ0_coder_7d493 6 = .ok (.aload_n 0, 1) := by decide +kernel
theorem dJ0_coder_7d493_7 : decode cJ0_coder_7d493 7 = .ok (.getfield 15, 3) := by decide +kernel
theorem dJ0_coder_7d493_10 : decode cJ0_coder_7d493 10 = .ok (.goto 4, 3) := by decide +kernel
theorem dJ0_coder_7d493_13 : decode cJ0_coder_7d493 13 = .ok (.iconst 1, 1) := by decide +kernel
theorem dJ0_coder_7d493_14 : decode cJ0_coder_7d493 14 = .ok (.ireturn, 1) := by decide +kernel
theorem dJ0_isLatin1_aae02_0 : decode cJ0_isLatin1_aae02 0 = .ok (.getstatic 38, 3) := by decide +kernel
theorem dJ0_isLatin1_aae02_3 : decode cJ0_isLatin1_aae02 3 = .ok (.ifCond .eq 14, 3) := by decide +kernel
theorem dJ0_isLatin1_aae02_6 : decode cJ0_isLatin1_aae02 6 = .ok (.aload_n 0, 1) := by decide +kernel
theorem dJ0_isLatin1_aae02_7 : decode cJ0_isLatin1_aae02 7 = .ok (.getfield 15, 3) := by decide +kernel
theorem dJ0_isLatin1_aae02_10 : decode cJ0_isLatin1_aae02 10 = .ok (.ifCond .ne 7, 3) := by decide +kernel
theorem dJ0_isLatin1_aae02_13 : decode cJ0_isLatin1_aae02 13 = .ok (.iconst 1, 1) := by decide +kernel
theorem dJ0_isLatin1_aae02_14 : decode cJ0_isLatin1_aae02 14 = .ok (.goto 4, 3) := by decide +kernel
theorem dJ0_isLatin1_aae02_17 : decode cJ0_isLatin1_aae02 17 = .ok (.iconst 0, 1) := by decide +kernel
theorem dJ0_isLatin1_aae02_18 : decode cJ0_isLatin1_aae02 18 = .ok (.ireturn, 1) := by decide +kernel
theorem dJ0_checkIndex_df160_0 : decode cJ0_checkIndex_df160 0 = .ok (.iload_n 0, 1) := by decide +kernel
theorem dJ0_checkIndex_df160_1 : decode cJ0_checkIndex_df160 1 = .ok (.iload_n 1, 1) := by decide +kernel
theorem dJ0_checkIndex_df160_2 : decode cJ0_checkIndex_df160 2 = .ok (.getstatic 1053, 3) := by decide +kernel
theorem dJ0_checkIndex_df160_5 : decode cJ0_checkIndex_df160 5 = .ok (.invokestatic 1059, 3) := by decide +kernel
theorem dJ0_checkIndex_df160_8 : decode cJ0_checkIndex_df160 8 = .ok (.pop, 1) := by decide +kernel
theorem dJ0_checkIndex_df160_9 : decode cJ0_checkIndex_df160 9 = .ok (.return_, 1) := by decide +kernel
theorem dJ0_checkBoundsOffCount_cabcc_0 : decode cJ0_checkBoundsOffCount_cabcc 0 = .ok (.iload_n 0, 1) := by decide +kernel
theorem dJ0_checkBoundsOffCount_cabcc_1 : decode cJ0_checkBoundsOffCount_cabcc 1 = .ok (.iload_n 1, 1) := by decide +kernel
theorem dJ0_checkBoundsOffCount_cabcc_2 : decode cJ0_checkBoundsOffCount_cabcc 2 = .ok (.iload_n 2, 1) := by decide +kernel
theorem dJ0_checkBoundsOffCount_cabcc_3 : decode cJ0_checkBoundsOffCount_cabcc 3 = .ok (.getstatic 1053, 3) := by decide +kernel
theorem dJ0_checkBoundsOffCount_cabcc_6 : decode cJ0_checkBoundsOffCount_cabcc 6 = .ok (.invokestatic 1065, 3) := by decide +kernel
theorem dJ0_checkBoundsOffCount_cabcc_9 : decode cJ0_checkBoundsOffCount_cabcc 9 = .ok (.ireturn, 1) := by decide +kernel
theorem dJ0_checkBoundsBeginEnd_23922_0 : decode cJ0_checkBoundsBeginEnd_23922 0 = .ok (.iload_n 0, 1) := by decide +kernel
theorem dJ0_checkBoundsBeginEnd_23922_1 : decode cJ0_checkBoundsBeginEnd_23922 1 = .ok (.iload_n 1, 1) := by decide +kernel
theorem dJ0_checkBoundsBeginEnd_23922_2 : decode cJ0_checkBoundsBeginEnd_23922 2 = .ok (.iload_n 2, 1) := by decide +kernel
theorem dJ0_checkBoundsBeginEnd_23922_3 : decode cJ0_checkBoundsBeginEnd_23922 3 = .ok (.getstatic 1053, 3) := by decide +kernel
theorem dJ0_checkBoundsBeginEnd_23922_6 : decode cJ0_checkBoundsBeginEnd_23922 6 = .ok (.invokestatic 1062, 3) := by decide +kernel
theorem dJ0_checkBoundsBeginEnd_23922_9 : decode cJ0_checkBoundsBeginEnd_23922 9 = .ok (.pop, 1) := by decide +kernel
theorem dJ0_checkBoundsBeginEnd_23922_10 : decode cJ0_checkBoundsBeginEnd_23922 10 = .ok (.return_, 1) := by decide +kernel
theorem dJ4_init_da8c8_0 : decode cJ4_init_da8c8 0 = .ok (.aload_n 0, 1) := by decide +kernel
theorem dJ4_init_da8c8_1 : decode cJ4_init_da8c8 1 = .ok (.bipush 16, 2) := by decide +kernel
theorem dJ4_init_da8c8_3 : decode cJ4_init_da8c8 3 = .ok (.invokespecial 1, 3) := by decide +kernel
theorem dJ4_init_da8c8_6 : decode cJ4_init_da8c8 6 = .ok (.return_, 1) := by decide +kernel
theorem dJ4_append_15ec4_0 : decode cJ4_append_15ec4 0 = .ok (.aload_n 0, 1) := by decide +kernel
theorem dJ4_append_15ec4_1 : decode cJ4_append_15ec4 1 = .ok (.aload_n 1, 1) := by decide +kernel
theorem dJ4_append_15ec4_2 : decode cJ4_append_15ec4 2 = .ok (.invokespecial 29, 3) := by decide +kernel
theorem dJ4_append_15ec4_5 : decode cJ4_append_15ec4 5 = .ok (.pop, 1) := by decide +kernel
theorem dJ4_append_15ec4_6 : decode cJ4_append_15ec4 6 = .ok (.aload_n 0, 1) := by decide +kernel
theorem dJ4_append_15ec4_7 : decode cJ4_append_15ec4 7 = .ok (.areturn, 1) := by decide +kernel
theorem dJ4_append_cf468_0 : decode cJ4_append_cf468 0 = .ok (.aload_n 0, 1) := by decide +kernel
theorem dJ4_append_cf468_1 : decode cJ4_append_cf468 1 = .ok (.iload_n 1, 1) := by decide +kernel
theorem dJ4_append_cf468_2 : decode cJ4_append_cf468 2 = .ok (.invokespecial 50, 3) := by decide +kernel
theorem dJ4_append_cf468_5 : decode cJ4_append_cf468 5 = .ok (.pop, 1) := by decide +kernel
theorem dJ4_append_cf468_6 : decode cJ4_append_cf468 6 = .ok (.aload_n 0, 1) := by decide +kernel
theorem dJ4_append_cf468_7 : decode cJ4_append_cf468 7 = .ok (.areturn, 1) := by decide +kernel
theorem dJ4_append_bf812_0 : decode cJ4_append_bf812 0 = .ok (.aload_n 0, 1) := by decide +kernel
theorem dJ4_append_bf812_1 : decode cJ4_append_bf812 1 = .ok (.iload_n 1, 1) := by decide +kernel
theorem dJ4_append_bf812_2 : decode cJ4_append_bf812 2 = .ok (.invokespecial 53, 3) := by decide +kernel
theorem dJ4_append_bf812_5 : decode cJ4_append_bf812 5 = .ok (.pop, 1) := by decide +kernel
theorem dJ4_append_bf812_6 : decode cJ4_append_bf812 6 = .ok (.aload_n 0, 1) := by decide +kernel
theorem dJ4_append_bf812_7 : decode cJ4_append_bf812 7 = .ok (.areturn, 1) := by decide +kernel
theorem dJ4_toString_0e30d_0 : decode cJ4_toString_0e30d 0 = .ok (.new 18, 3) := by decide +kernel
theorem dJ4_toString_0e30d_3 : decode cJ4_toString_0e30d 3 = .ok (.dup, 1) := by decide +kernel
theorem dJ4_toString_0e30d_4 : decode cJ4_toString_0e30d 4 = .ok (.aload_n 0, 1) := by decide +kernel
theorem dJ4_toString_0e30d_5 : decode cJ4_toString_0e30d 5 = .ok (.invokespecial 137, 3) := by decide +kernel
theorem dJ4_toString_0e30d_8 : decode cJ4_toString_0e30d 8 = .ok (.areturn, 1) := by decide +kernel
theorem dJ4_charAt_5068e_0 : decode cJ4_charAt_5068e 0 = .ok (.aload_n 0, 1) := by decide +kernel
theorem dJ4_charAt_5068e_1 : decode cJ4_charAt_5068e 1 = .ok (.iload_n 1, 1) := by decide +kernel
theorem dJ4_charAt_5068e_2 : decode cJ4_charAt_5068e 2 = .ok (.invokespecial 329, 3) := by decide +kernel
theorem dJ4_charAt_5068e_5 : decode cJ4_charAt_5068e 5 = .ok (.ireturn, 1) := by decide +kernel
theorem dJ4_length_8abf5_0 : decode cJ4_length_8abf5 0 = .ok (.aload_n 0, 1) := by decide +kernel
theorem dJ4_length_8abf5_1 : decode cJ4_length_8abf5 1 = .ok (.invokespecial 343, 3) := by decide +kernel
theorem dJ4_length_8abf5_4 : decode cJ4_length_8abf5 4 = .ok (.ireturn, 1) := by decide +kernel
theorem dJ1_charAt_3b067_0 : decode cJ1_charAt_3b067 0 = .ok (.iload_n 1, 1) := by decide +kernel
theorem dJ1_charAt_3b067_1 : decode cJ1_charAt_3b067 1 = .ok (.aload_n 0, 1) := by decide +kernel
theorem dJ1_charAt_3b067_2 : decode cJ1_charAt_3b067 2 = .ok (.arraylength, 1) := by decide +kernel
theorem dJ1_charAt_3b067_3 : decode cJ1_charAt_3b067 3 = .ok (.invokestatic 9, 3) := by decide +kernel
theorem dJ1_charAt_3b067_6 : decode cJ1_charAt_3b067 6 = .ok (.aload_n 0, 1) := by decide +kernel
theorem dJ1_charAt_3b067_7 : decode cJ1_charAt_3b067 7 = .ok (.iload_n 1, 1) := by decide +kernel
theorem dJ1_charAt_3b067_8 : decode cJ1_charAt_3b067 8 = .ok (.baload, 1) := by decide +kernel
theorem dJ1_charAt_3b067_9 : decode cJ1_charAt_3b067 9 = .ok (.sipush 255, 3) := by decide +kernel
theorem dJ1_charAt_3b067_12 : decode cJ1_charAt_3b067 12 = .ok (.iand, 1) := by decide +kernel
theorem dJ1_charAt_3b067_13 : decode cJ1_charAt_3b067 13 = .ok (.i2c, 1) := by decide +kernel
theorem dJ1_charAt_3b067_14 : decode cJ1_charAt_3b067 14 = .ok (.ireturn, 1) := by decide +kernel
theorem dJ1_canEncode_fc78d_0 : decode cJ1_canEncode_fc78d 0 = .ok (.iload_n 0, 1) := by decide +kernel
theorem dJ1_canEncode_fc78d_1 : decode cJ1_canEncode_fc78d 1 = .ok (.sipush 255, 3) := by decide +kernel
theorem dJ1_canEncode_fc78d_4 : decode cJ1_canEncode_fc78d 4 = .ok (.if_icmp .gt 7, 3) := by decide +kernel
theorem dJ1_canEncode_fc78d_7 : decode cJ1_canEncode_fc78d 7 = .ok (.iconst 1, 1) := by decide +kernel
theorem dJ1_canEncode_fc78d_8 : decode cJ1_canEncode_fc78d 8 = .ok (.goto 4, 3) := by decide +kernel
theorem dJ1_canEncode_fc78d_11 : decode cJ1_canEncode_fc78d 11 = .ok (.iconst 0, 1) := by decide +kernel
theorem dJ1_canEncode_fc78d_12 : decode cJ1_canEncode_fc78d 12 = .ok (.ireturn, 1) := by decide +kernel
theorem dJ1_canEncode_9a6ad_0 : decode cJ1_canEncode_9a6ad 0 = .ok (.iload_n 0, 1) := by decide +kernel
theorem dJ1_canEncode_9a6ad_1 : decode cJ1_canEncode_9a6ad 1 = .ok (.ifCond .lt 14, 3) := by decide +kernel
theorem dJ1_canEncode_9a6ad_4 : decode cJ1_canEncode_9a6ad 4 = .ok (.iload_n 0, 1) := by decide +kernel
theorem dJ1_canEncode_9a6ad_5 : decode cJ1_canEncode_9a6ad 5 = .ok (.sipush 255, 3) := by decide +kernel
theorem dJ1_canEncode_9a6ad_8 : decode cJ1_canEncode_9a6ad 8 = .ok (.if_icmp .gt 7, 3) := by decide +kernel
theorem dJ1_canEncode_9a6ad_11 : decode cJ1_canEncode_9a6ad 11 = .ok (.iconst 1, 1) := by decide +kernel
theorem dJ1_canEncode_9a6ad_12 : decode cJ1_canEncode_9a6ad 12 = .ok (.goto 4, 3) := by decide +kernel
theorem dJ1_canEncode_9a6ad_15 : decode cJ1_canEncode_9a6ad 15 = .ok (.iconst 0, 1) := by decide +kernel
theorem dJ1_canEncode_9a6ad_16 : decode cJ1_canEncode_9a6ad 16 = .ok (.ireturn, 1) := by decide +kernel
theorem dJ1_indexOf_4cfef_0 : decode cJ1_indexOf_4cfef 0 = .ok (.iload_n 1, 1) := by decide +kernel
theorem dJ1_indexOf_4cfef_1 : decode cJ1_indexOf_4cfef 1 = .ok (.invokestatic 88, 3) := by decide +kernel
theorem dJ1_indexOf_4cfef_4 : decode cJ1_indexOf_4cfef 4 = .ok (.ifCond .ne 5, 3) := by decide +kernel
theorem dJ1_indexOf_4cfef_7 : decode cJ1_indexOf_4cfef 7 = .ok (.iconst (-1), 1) := by decide +kernel
theorem dJ1_indexOf_4cfef_8 : decode cJ1_indexOf_4cfef 8 = .ok (.ireturn, 1) := by decide +kernel
theorem dJ1_indexOf_4cfef_9 : decode cJ1_indexOf_4cfef 9 = .ok (.iload_n 2, 1) := by decide +kernel
theorem dJ1_indexOf_4cfef_10 : decode cJ1_indexOf_4cfef 10 = .ok (.iconst 0, 1) := by decide +kernel
theorem dJ1_indexOf_4cfef_11 : decode cJ1_indexOf_4cfef 11 = .ok (.invokestatic 92, 3) := by decide +kernel
theorem dJ1_indexOf_4cfef_14 : decode cJ1_indexOf_4cfef 14 = .ok (.istore_n 2, 1) := by decide +kernel
theorem dJ1_indexOf_4cfef_15 : decode cJ1_indexOf_4cfef 15 = .ok (.iload_n 3, 1) := by decide +kernel
theorem dJ1_indexOf_4cfef_16 : decode cJ1_indexOf_4cfef 16 = .ok (.aload_n 0, 1) := by decide +kernel
theorem dJ1_indexOf_4cfef_17 : decode cJ1_indexOf_4cfef 17 = .ok (.arraylength, 1) := by decide +kernel
theorem dJ1_indexOf_4cfef_18 : decode cJ1_indexOf_4cfef 18 = .ok (.invokestatic 38, 3) := by decide +kernel
theorem dJ1_indexOf_4cfef_21 : decode cJ1_indexOf_4cfef 21 = .ok (.istore_n 3, 1) := by decide +kernel
theorem dJ1_indexOf_4cfef_22 : decode cJ1_indexOf_4cfef 22 = .ok (.iload_n 2, 1) := by decide +kernel
theorem dJ1_indexOf_4cfef_23 : decode cJ1_indexOf_4cfef 23 = .ok (.iload_n 3, 1) := by decide +kernel
theorem dJ1_indexOf_4cfef_24 : decode cJ1_indexOf_4cfef 24 = .ok (.if_icmp .lt 5, 3) := by decide +kernel
theorem dJ1_indexOf_4cfef_27 : decode cJ1_indexOf_4cfef 27 = .ok (.iconst (-1), 1) := by decide +kernel
theorem dJ1_indexOf_4cfef_28 : decode cJ1_indexOf_4cfef 28 = .ok (.ireturn, 1) := by decide +kernel
theorem dJ1_indexOf_4cfef_29 : decode cJ1_indexOf_4cfef 29 = .ok (.aload_n 0, 1) := by decide +kernel
theorem dJ1_indexOf_4cfef_30 : decode cJ1_indexOf_4cfef 30 = .ok (.iload_n 1, 1) := by decide +kernel
theorem dJ1_indexOf_4cfef_31 : decode cJ1_indexOf_4cfef 31 = .ok (.iload_n 2, 1) := by decide +kernel
theorem dJ1_indexOf_4cfef_32 : decode cJ1_indexOf_4cfef 32 = .ok (.iload_n 3, 1) := by decide +kernel
theorem dJ1_indexOf_4cfef_33 : decode cJ1_indexOf_4cfef 33 = .ok (.invokestatic 95, 3) := by decide +kernel
theorem dJ1_indexOf_4cfef_36 : decode cJ1_indexOf_4cfef 36 = .ok (.ireturn, 1) := by decide +kernel
theorem dJ1_indexOfChar_4cfef_0 : decode cJ1_indexOfChar_4cfef 0 = .ok (.iload_n 1, 1) := by decide +kernel
theorem dJ1_indexOfChar_4cfef_1 : decode cJ1_indexOfChar_4cfef 1 = .ok (.i2b, 1) := by decide +kernel
theorem dJ1_indexOfChar_4cfef_2 : decode cJ1_indexOfChar_4cfef 2 = .ok (.istore 4, 2) := by decide +kernel
theorem dJ1_indexOfChar_4cfef_4 : decode cJ1_indexOfChar_4cfef 4 = .ok (.iload_n 2, 1) := by decide +kernel
theorem dJ1_indexOfChar_4cfef_5 : decode cJ1_indexOfChar_4cfef 5 = .ok (.istore 5, 2) := by decide +kernel
theorem dJ1_indexOfChar_4cfef_7 : decode cJ1_indexOfChar_4cfef 7 = .ok (.iload 5, 2) := by decide +kernel
theorem dJ1_indexOfChar_4cfef_9 : decode cJ1_indexOfChar_4cfef 9 = .ok (.iload_n 3, 1) := by decide +kernel
theorem dJ1_indexOfChar_4cfef_10 : decode cJ1_indexOfChar_4cfef 10 = .ok (.if_icmp .ge 21, 3) := by decide +kernel
theorem dJ1_indexOfChar_4cfef_13 : decode cJ1_indexOfChar_4cfef 13 = .ok (.aload_n 0, 1) := by decide +kernel
theorem dJ1_indexOfChar_4cfef_14 : decode cJ1_indexOfChar_4cfef 14 = .ok (.iload 5, 2) := by decide +kernel
theorem dJ1_indexOfChar_4cfef_16 : decode cJ1_indexOfChar_4cfef 16 = .ok (.baload, 1) := by decide +kernel
theorem dJ1_indexOfChar_4cfef_17 : decode cJ1_indexOfChar_4cfef 17 = .ok (.iload 4, 2) := by decide +kernel
theorem dJ1_indexOfChar_4cfef_19 : decode cJ1_indexOfChar_4cfef 19 = .ok (.if_icmp .ne 6, 3) := by decide +kernel
theorem dJ1_indexOfChar_4cfef_22 : decode cJ1_indexOfChar_4cfef 22 = .ok (.iload 5, 2) := by decide +kernel
theorem dJ1_indexOfChar_4cfef_24 : decode cJ1_indexOfChar_4cfef 24 = .ok (.ireturn, 1) := by decide +kernel
theorem dJ1_indexOfChar_4cfef_25 : decode cJ1_indexOfChar_4cfef 25 = .ok (.iinc 5 1, 3) := by decide +kernel
theorem dJ1_indexOfChar_4cfef_28 : decode cJ1_indexOfChar_4cfef 28 = .ok (.goto (-21), 3) := by decide +kernel
theorem dJ1_indexOfChar_4cfef_31 : decode cJ1_indexOfChar_4cfef 31 = .ok (.iconst (-1), 1) := by decide +kernel
theorem dJ1_indexOfChar_4cfef_32 : decode cJ1_indexOfChar_4cfef 32 = .ok (.ireturn, 1) := by decide +kernel
theorem dJ1_inflate_0e8fd_0 : decode cJ1_inflate_0e8fd 0 = .ok (.aload_n 0, 1) := by decide +kernel
theorem dJ1_inflate_0e8fd_1 : decode cJ1_inflate_0e8fd 1 = .ok (.iload_n 1, 1) := by decide +kernel
theorem dJ1_inflate_0e8fd_2 : decode cJ1_inflate_0e8fd 2 = .ok (.aload_n 2, 1) := by decide +kernel
theorem dJ1_inflate_0e8fd_3 : decode cJ1_inflate_0e8fd 3 = .ok (.iload_n 3, 1) := by decide +kernel
theorem dJ1_inflate_0e8fd_4 : decode cJ1_inflate_0e8fd 4 = .ok (.iload 4, 2) := by decide +kernel
theorem dJ1_inflate_0e8fd_6 : decode cJ1_inflate_0e8fd 6 = .ok (.invokestatic 240, 3) := by decide +kernel
theorem dJ1_inflate_0e8fd_9 : decode cJ1_inflate_0e8fd 9 = .ok (.return_, 1) := by decide +kernel
theorem dJ2_newBytesFor_77867_0 : decode cJ2_newBytesFor_77867 0 = .ok (.iload_n 0, 1) := by decide +kernel
theorem dJ2_newBytesFor_77867_1 : decode cJ2_newBytesFor_77867 1 = .ok (.invokestatic 11, 3) := by decide +kernel
theorem dJ2_newBytesFor_77867_4 : decode cJ2_newBytesFor_77867 4 = .ok (.newarray .byte, 2) := by decide +kernel
theorem dJ2_newBytesFor_77867_6 : decode cJ2_newBytesFor_77867 6 = .ok (.areturn, 1) := by decide +kernel
theorem dJ2_newBytesLength_0f7a4_0 : decode cJ2_newBytesLength_0f7a4 0 = .ok (.iload_n 0, 1) := by decide +kernel
theorem dJ2_newBytesLength_0f7a4_1 : decode cJ2_newBytesLength_0f7a4 1 = .ok (.ifCond .ge 11, 3) := by decide +kernel
theorem dJ2_newBytesLength_0f7a4_4 : decode cJ2_newBytesLength_0f7a4 4 = .ok (.new 17, 3) := by decide +kernel
theorem dJ2_newBytesLength_0f7a4_7 : decode cJ2_newBytesLength_0f7a4 7 = .ok (.dup, 1) := by decide +kernel
theorem dJ2_newBytesLength_0f7a4_8 : decode cJ2_newBytesLength_0f7a4 8 = .ok (.invokespecial 19, 3) := by decide +kernel
theorem dJ2_newBytesLength_0f7a4_11 : decode cJ2_newBytesLength_0f7a4 11 = .ok (.athrow, 1) := by decide +kernel
theorem dJ2_newBytesLength_0f7a4_12 : decode cJ2_newBytesLength_0f7a4 12 = .ok (.iload_n 0, 1) := by decide +kernel
theorem dJ2_newBytesLength_0f7a4_13 : decode cJ2_newBytesLength_0f7a4 13 = .ok (.ldc 20, 2) := by decide +kernel
theorem dJ2_newBytesLength_0f7a4_15 : decode cJ2_newBytesLength_0f7a4 15 = .ok (.if_icmp .lt 40, 3) := by decide +kernel
theorem dJ2_newBytesLength_0f7a4_18 : decode cJ2_newBytesLength_0f7a4 18 = .ok (.new 21, 3) := by decide +kernel
theorem dJ2_newBytesLength_0f7a4_21 : decode cJ2_newBytesLength_0f7a4 21 = .ok (.dup, 1) := by decide +kernel
theorem dJ2_newBytesLength_0f7a4_22 : decode cJ2_newBytesLength_0f7a4 22 = .ok (.new 23, 3) := by decide +kernel
theorem dJ2_newBytesLength_0f7a4_25 : decode cJ2_newBytesLength_0f7a4 25 = .ok (.dup, 1) := by decide +kernel
theorem dJ2_newBytesLength_0f7a4_26 : decode cJ2_newBytesLength_0f7a4 26 = .ok (.invokespecial 25, 3) := by decide +kernel
theorem dJ2_newBytesLength_0f7a4_29 : decode cJ2_newBytesLength_0f7a4 29 = .ok (.ldc 26, 2) := by decide +kernel
theorem dJ2_newBytesLength_0f7a4_31 : decode cJ2_newBytesLength_0f7a4 31 = .ok (.invokevirtual 28, 3) := by decide +kernel
theorem dJ2_newBytesLength_0f7a4_34 : decode cJ2_newBytesLength_0f7a4 34 = .ok (.iload_n 0, 1) := by decide +kernel
theorem dJ2_newBytesLength_0f7a4_35 : decode cJ2_newBytesLength_0f7a4 35 = .ok (.invokevirtual 32, 3) := by decide +kernel
theorem dJ2_newBytesLength_0f7a4_38 : decode cJ2_newBytesLength_0f7a4 38 = .ok (.ldc 35, 2) := by decide +kernel
theorem dJ2_newBytesLength_0f7a4_40 : decode cJ2_newBytesLength_0f7a4 40 = .ok (.invokevirtual 28, 3) := by decide +kernel
theorem dJ2_newBytesLength_0f7a4_43 : decode cJ2_newBytesLength_0f7a4 43 = .ok (.ldc 20, 2) := by decide +kernel
theorem dJ2_newBytesLength_0f7a4_45 : decode cJ2_newBytesLength_0f7a4 45 = .ok (.invokevirtual 32, 3) := by decide +kernel
theorem dJ2_newBytesLength_0f7a4_48 : decode cJ2_newBytesLength_0f7a4 48 = .ok (.invokevirtual 37, 3) := by decide +kernel
theorem dJ2_newBytesLength_0f7a4_51 : decode cJ2_newBytesLength_0f7a4 51 = .ok (.invokespecial 41, 3) := by decide +kernel
theorem dJ2_newBytesLength_0f7a4_54 : decode cJ2_newBytesLength_0f7a4 54 = .ok (.athrow, 1) := by decide +kernel
theorem dJ2_newBytesLength_0f7a4_55 : decode cJ2_newBytesLength_0f7a4 55 = .ok (.iload_n 0, 1) := by decide +kernel
theorem dJ2_newBytesLength_0f7a4_56 : decode cJ2_newBytesLength_0f7a4 56 = .ok (.iconst 1, 1) := by decide +kernel
theorem dJ2_newBytesLength_0f7a4_57 : decode cJ2_newBytesLength_0f7a4 57 = .ok (.ishl, 1) := by decide +kernel
theorem dJ2_newBytesLength_0f7a4_58 : decode cJ2_newBytesLength_0f7a4 58 = .ok (.ireturn, 1) := by decide +kernel
theorem dJ2_putChar_b72d1_0 : decode cJ2_putChar_b72d1 0 = .ok (.getstatic 44, 3) := by decide +kernel
theorem dJ2_putChar_b72d1_3 : decode cJ2_putChar_b72d1 3 = .ok (.ifCond .ne 25, 3) := by decide +kernel
theorem dJ2_putChar_b72d1_6 : decode cJ2_putChar_b72d1 6 = .ok (.iload_n 1, 1) := by decide +kernel
theorem dJ2_putChar_b72d1_7 : decode cJ2_putChar_b72d1 7 = .ok (.ifCond .lt 11, 3) := by decide +kernel
theorem dJ2_putChar_b72d1_10 : decode cJ2_putChar_b72d1 10 = .ok (.iload_n 1, 1) := by decide +kernel
theorem dJ2_putChar_b72d1_11 : decode cJ2_putChar_b72d1 11 = .ok (.aload_n 0, 1) := by decide +kernel
theorem dJ2_putChar_b72d1_12 : decode cJ2_putChar_b72d1 12 = .ok (.invokestatic 48, 3) := by decide +kernel
theorem dJ2_putChar_b72d1_15 : decode cJ2_putChar_b72d1 15 = .ok (.if_icmp .lt 13, 3) := by decide +kernel
theorem dJ2_putChar_b72d1_18 : decode cJ2_putChar_b72d1 18 = .ok (.new 52, 3) := by decide +kernel
theorem dJ2_putChar_b72d1_21 : decode cJ2_putChar_b72d1 21 = .ok (.dup, 1) := by decide +kernel
theorem dJ2_putChar_b72d1_22 : decode cJ2_putChar_b72d1 22 = .ok (.ldc 54, 2) := by decide +kernel
theorem dJ2_putChar_b72d1_24 : decode cJ2_putChar_b72d1 24 = .ok (.invokespecial 56, 3) := by decide +kernel
theorem dJ2_putChar_b72d1_27 : decode cJ2_putChar_b72d1 27 = .ok (.athrow, 1) := by decide +kernel
theorem dJ2_putChar_b72d1_28 : decode cJ2_putChar_b72d1 28 = .ok (.iload_n 1, 1) := by decide +kernel
theorem dJ2_putChar_b72d1_29 : decode cJ2_putChar_b72d1 29 = .ok (.iconst 1, 1) := by decide +kernel
theorem dJ2_putChar_b72d1_30 : decode cJ2_putChar_b72d1 30 = .ok (.ishl, 1) := by decide +kernel
theorem dJ2_putChar_b72d1_31 : decode cJ2_putChar_b72d1 31 = .ok (.istore_n 1, 1) := by decide +kernel
theorem dJ2_putChar_b72d1_32 : decode cJ2_putChar_b72d1 32 = .ok (.aload_n 0, 1) := by decide +kernel
theorem dJ2_putChar_b72d1_33 : decode cJ2_putChar_b72d1 33 = .ok (.iload_n 1, 1) := by decide +kernel
theorem dJ2_putChar_b72d1_34 : decode cJ2_putChar_b72d1 34 = .ok (.iinc 1 1, 3) := by decide +kernel
theorem dJ2_putChar_b72d1_37 : decode cJ2_putChar_b72d1 37 = .ok (.iload_n 2, 1) := by decide +kernel
theorem dJ2_putChar_b72d1_38 : decode cJ2_putChar_b72d1 38 = .ok (.getstatic 59, 3) := by decide +kernel
theorem dJ2_putChar_b72d1_41 : decode cJ2_putChar_b72d1 41 = .ok (.ishr, 1) := by decide +kernel
theorem dJ2_putChar_b72d1_42 : decode cJ2_putChar_b72d1 42 = .ok (.i2b, 1) := by decide +kernel
theorem dJ2_putChar_b72d1_43 : decode cJ2_putChar_b72d1 43 = .ok (.bastore, 1) := by decide +kernel
theorem dJ2_putChar_b72d1_44 : decode cJ2_putChar_b72d1 44 = .ok (.aload_n 0, 1) := by decide +kernel
theorem dJ2_putChar_b72d1_45 : decode cJ2_putChar_b72d1 45 = .ok (.iload_n 1, 1) := by decide +kernel
theorem dJ2_putChar_b72d1_46 : decode cJ2_putChar_b72d1 46 = .ok (.iload_n 2, 1) := by decide +kernel
theorem dJ2_putChar_b72d1_47 : decode cJ2_putChar_b72d1 47 = .ok (.getstatic 63, 3) := by decide +kernel
theorem dJ2_putChar_b72d1_50 : decode cJ2_putChar_b72d1 50 = .ok (.ishr, 1) := by decide +kernel
theorem dJ2_putChar_b72d1_51 : decode cJ2_putChar_b72d1 51 = .ok (.i2b, 1) := by decide +kernel
theorem dJ2_putChar_b72d1_52 : decode cJ2_putChar_b72d1 52 = .ok (.bastore, 1) := by decide +kernel
theorem dJ2_putChar_b72d1_53 : decode cJ2_putChar_b72d1 53 = .ok (.return_, 1) := by decide +kernel
theorem dJ2_getChar_3b067_0 : decode cJ2_getChar_3b067 0 = .ok (.getstatic 44, 3) := by decide +kernel
theorem dJ2_getChar_3b067_3 : decode cJ2_getChar_3b067 3 = .ok (.ifCond .ne 25, 3) := by decide +kernel
theorem dJ2_getChar_3b067_6 : decode cJ2_getChar_3b067 6 = .ok (.iload_n 1, 1) := by decide +kernel
theorem dJ2_getChar_3b067_7 : decode cJ2_getChar_3b067 7 = .ok (.ifCond .lt 11, 3) := by decide +kernel
theorem dJ2_getChar_3b067_10 : decode cJ2_getChar_3b067 10 = .ok (.iload_n 1, 1) := by decide +kernel
theorem dJ2_getChar_3b067_11 : decode cJ2_getChar_3b067 11 = .ok (.aload_n 0, 1) := by decide +kernel
theorem dJ2_getChar_3b067_12 : decode cJ2_getChar_3b067 12 = .ok (.invokestatic 48, 3) := by decide +kernel
theorem dJ2_getChar_3b067_15 : decode cJ2_getChar_3b067 15 = .ok (.if_icmp .lt 13, 3) := by decide +kernel
theorem dJ2_getChar_3b067_18 : decode cJ2_getChar_3b067 18 = .ok (.new 52, 3) := by decide +kernel
theorem dJ2_getChar_3b067_21 : decode cJ2_getChar_3b067 21 = .ok (.dup, 1) := by decide +kernel
theorem dJ2_getChar_3b067_22 : decode cJ2_getChar_3b067 22 = .ok (.ldc 54, 2) := by decide +kernel
theorem dJ2_getChar_3b067_24 : decode cJ2_getChar_3b067 24 = .ok (.invokespecial 56, 3) := by decide +kernel
theorem dJ2_getChar_3b067_27 : decode cJ2_getChar_3b067 27 = .ok (.athrow, 1) := by decide +kernel
theorem dJ2_getChar_3b067_28 : decode cJ2_getChar_3b067 28 = .ok (.iload_n 1, 1) := by decide +kernel
theorem dJ2_getChar_3b067_29 : decode cJ2_getChar_3b067 29 = .ok (.iconst 1, 1) := by decide +kernel
theorem dJ2_getChar_3b067_30 : decode cJ2_getChar_3b067 30 = .ok (.ishl, 1) := by decide +kernel
theorem dJ2_getChar_3b067_31 : decode cJ2_getChar_3b067 31 = .ok (.istore_n 1, 1) := by decide +kernel
theorem dJ2_getChar_3b067_32 : decode cJ2_getChar_3b067 32 = .ok (.aload_n 0, 1) := by decide +kernel
theorem dJ2_getChar_3b067_33 : decode cJ2_getChar_3b067 33 = .ok (.iload_n 1, 1) := by decide +kernel
theorem dJ2_getChar_3b067_34 : decode cJ2_getChar_3b067 34 = .ok (.iinc 1 1, 3) := by decide +kernel
theorem dJ2_getChar_3b067_37 : decode cJ2_getChar_3b067 37 = .ok (.baload, 1) := by decide +kernel
theorem dJ2_getChar_3b067_38 : decode cJ2_getChar_3b067 38 = .ok (.sipush 255, 3) := by decide +kernel
theorem dJ2_getChar_3b067_41 : decode cJ2_getChar_3b067 41 = .ok (.iand, 1) := by decide +kernel
theorem dJ2_getChar_3b067_42 : decode cJ2_getChar_3b067 42 = .ok (.getstatic 59, 3) := by decide +kernel
theorem dJ2_getChar_3b067_45 : decode cJ2_getChar_3b067 45 = .ok (.ishl, 1) := by decide +kernel
theorem dJ2_getChar_3b067_46 : decode cJ2_getChar_3b067 46 = .ok (.aload_n 0, 1) := by decide +kernel
theorem dJ2_getChar_3b067_47 : decode cJ2_getChar_3b067 47 = .ok (.iload_n 1, 1) := by decide +kernel
theorem dJ2_getChar_3b067_48 : decode cJ2_getChar_3b067 48 = .ok (.baload, 1) := by decide +kernel
theorem dJ2_getChar_3b067_49 : decode cJ2_getChar_3b067 49 = .ok (.sipush 255, 3) := by decide +kernel
theorem dJ2_getChar_3b067_52 : decode cJ2_getChar_3b067 52 = .ok (.iand, 1) := by decide +kernel
theorem dJ2_getChar_3b067_53 : decode cJ2_getChar_3b067 53 = .ok (.getstatic 63, 3) := by decide +kernel
theorem dJ2_getChar_3b067_56 : decode cJ2_getChar_3b067 56 = .ok (.ishl, 1) := by decide +kernel
theorem dJ2_getChar_3b067_57 : decode cJ2_getChar_3b067 57 = .ok (.ior, 1) := by decide +kernel
theorem dJ2_getChar_3b067_58 : decode cJ2_getChar_3b067 58 = .ok (.i2c, 1) := by decide +kernel
theorem dJ2_getChar_3b067_59 : decode cJ2_getChar_3b067 59 = .ok (.ireturn, 1) := by decide +kernel
theorem dJ2_length_9d52b_0 : decode cJ2_length_9d52b 0 = .ok (.aload_n 0, 1) := by decide +kernel
theorem dJ2_length_9d52b_1 : decode cJ2_length_9d52b 1 = .ok (.arraylength, 1) := by decide +kernel
theorem dJ2_length_9d52b_2 : decode cJ2_length_9d52b 2 = .ok (.iconst 1, 1) := by decide +kernel
theorem dJ2_length_9d52b_3 : decode cJ2_length_9d52b 3 = .ok (.ishr, 1) := by decide +kernel
theorem dJ2_length_9d52b_4 : decode cJ2_length_9d52b 4 = .ok (.ireturn, 1) := by decide +kernel
theorem dJ2_coderFromArrayLen_85cad_0 : decode cJ2_coderFromArrayLen_85cad 0 = .ok (.iload_n 1, 1) := by decide +kernel
theorem dJ2_coderFromArrayLen_85cad_1 : decode cJ2_coderFromArrayLen_85cad 1 = .ok (.aload_n 0, 1) := by decide +kernel
theorem dJ2_coderFromArrayLen_85cad_2 : decode cJ2_coderFromArrayLen_85cad 2 = .ok (.arraylength, 1) := by decide +kernel
theorem dJ2_coderFromArrayLen_85cad_3 : decode cJ2_coderFromArrayLen_85cad 3 = .ok (.isub, 1) := by decide +kernel
theorem dJ2_coderFromArrayLen_85cad_4 : decode cJ2_coderFromArrayLen_85cad 4 = .ok (.bipush 31, 2) := by decide +kernel
theorem dJ2_coderFromArrayLen_85cad_6 : decode cJ2_coderFromArrayLen_85cad 6 = .ok (.iushr, 1) := by decide +kernel
theorem dJ2_coderFromArrayLen_85cad_7 : decode cJ2_coderFromArrayLen_85cad 7 = .ok (.i2b, 1) := by decide +kernel
theorem dJ2_coderFromArrayLen_85cad_8 : decode cJ2_coderFromArrayLen_85cad 8 = .ok (.ireturn, 1) := by decide +kernel
theorem dJ2_compress_39247_0 : decode cJ2_compress_39247 0 = .ok (.iload_n 2, 1) := by decide +kernel
theorem dJ2_compress_39247_1 : decode cJ2_compress_39247 1 = .ok (.newarray .byte, 2) := by decide +kernel
theorem dJ2_compress_39247_3 : decode cJ2_compress_39247 3 = .ok (.astore_n 3, 1) := by decide +kernel
theorem dJ2_compress_39247_4 : decode cJ2_compress_39247 4 = .ok (.aload_n 0, 1) := by decide +kernel
theorem dJ2_compress_39247_5 : decode cJ2_compress_39247 5 = .ok (.iload_n 1, 1) := by decide +kernel
theorem dJ2_compress_39247_6 : decode cJ2_compress_39247 6 = .ok (.aload_n 3, 1) := by decide +kernel
theorem dJ2_compress_39247_7 : decode cJ2_compress_39247 7 = .ok (.iconst 0, 1) := by decide +kernel
theorem dJ2_compress_39247_8 : decode cJ2_compress_39247 8 = .ok (.iload_n 2, 1) := by decide +kernel
theorem dJ2_compress_39247_9 : decode cJ2_compress_39247 9 = .ok (.invokestatic 123, 3) := by decide +kernel
theorem dJ2_compress_39247_12 : decode cJ2_compress_39247 12 = .ok (.istore 4, 2) := by decide +kernel
theorem dJ2_compress_39247_14 : decode cJ2_compress_39247 14 = .ok (.iload 4, 2) := by decide +kernel
theorem dJ2_compress_39247_16 : decode cJ2_compress_39247 16 = .ok (.iload_n 2, 1) := by decide +kernel
theorem dJ2_compress_39247_17 : decode cJ2_compress_39247 17 = .ok (.if_icmp .eq 47, 3) := by decide +kernel
theorem dJ2_compress_39247_20 : decode cJ2_compress_39247 20 = .ok (.aload_n 0, 1) := by decide +kernel
theorem dJ2_compress_39247_21 : decode cJ2_compress_39247 21 = .ok (.iload_n 1, 1) := by decide +kernel
theorem dJ2_compress_39247_22 : decode cJ2_compress_39247 22 = .ok (.iconst 1, 1) := by decide +kernel
theorem dJ2_compress_39247_23 : decode cJ2_compress_39247 23 = .ok (.ishl, 1) := by decide +kernel
theorem dJ2_compress_39247_24 : decode cJ2_compress_39247 24 = .ok (.iload_n 1, 1) := by decide +kernel
theorem dJ2_compress_39247_25 : decode cJ2_compress_39247 25 = .ok (.iload_n 2, 1) := by decide +kernel
theorem dJ2_compress_39247_26 : decode cJ2_compress_39247 26 = .ok (.iadd, 1) := by decide +kernel
theorem dJ2_compress_39247_27 : decode cJ2_compress_39247 27 = .ok (.invokestatic 11, 3) := by decide +kernel
theorem dJ2_compress_39247_30 : decode cJ2_compress_39247 30 = .ok (.invokestatic 126, 3) := by decide +kernel
theorem dJ2_compress_39247_33 : decode cJ2_compress_39247 33 = .ok (.astore 5, 2) := by decide +kernel
theorem dJ2_compress_39247_35 : decode cJ2_compress_39247 35 = .ok (.aload 5, 2) := by decide +kernel
theorem dJ2_compress_39247_37 : decode cJ2_compress_39247 37 = .ok (.iload 4, 2) := by decide +kernel
theorem dJ2_compress_39247_39 : decode cJ2_compress_39247 39 = .ok (.invokestatic 71, 3) := by decide +kernel
theorem dJ2_compress_39247_42 : decode cJ2_compress_39247 42 = .ok (.sipush 255, 3) := by decide +kernel
theorem dJ2_compress_39247_45 : decode cJ2_compress_39247 45 = .ok (.if_icmp .gt 16, 3) := by decide +kernel
theorem dJ2_compress_39247_48 : decode cJ2_compress_39247 48 = .ok (.aload 5, 2) := by decide +kernel
theorem dJ2_compress_39247_50 : decode cJ2_compress_39247 50 = .ok (.iconst 0, 1) := by decide +kernel
theorem dJ2_compress_39247_51 : decode cJ2_compress_39247 51 = .ok (.aload_n 3, 1) := by decide +kernel
theorem dJ2_compress_39247_52 : decode cJ2_compress_39247 52 = .ok (.iconst 0, 1) := by decide +kernel
theorem dJ2_compress_39247_53 : decode cJ2_compress_39247 53 = .ok (.iload_n 2, 1) := by decide +kernel
theorem dJ2_compress_39247_54 : decode cJ2_compress_39247 54 = .ok (.invokestatic 123, 3) := by decide +kernel
theorem dJ2_compress_39247_57 : decode cJ2_compress_39247 57 = .ok (.iload_n 2, 1) := by decide +kernel
theorem dJ2_compress_39247_58 : decode cJ2_compress_39247 58 = .ok (.if_icmp .eq 6, 3) := by decide +kernel
theorem dJ2_compress_39247_61 : decode cJ2_compress_39247 61 = .ok (.aload 5, 2) := by decide +kernel
theorem dJ2_compress_39247_63 : decode cJ2_compress_39247 63 = .ok (.areturn, 1) := by decide +kernel
theorem dJ2_compress_39247_64 : decode cJ2_compress_39247 64 = .ok (.aload_n 3, 1) := by decide +kernel
theorem dJ2_compress_39247_65 : decode cJ2_compress_39247 65 = .ok (.areturn, 1) := by decide +kernel
theorem dJ2_compress_5af95_0 : decode cJ2_compress_5af95 0 = .ok (.iload_n 1, 1) := by decide +kernel
theorem dJ2_compress_5af95_1 : decode cJ2_compress_5af95 1 = .ok (.iload 4, 2) := by decide +kernel
theorem dJ2_compress_5af95_3 : decode cJ2_compress_5af95 3 = .ok (.aload_n 0, 1) := by decide +kernel
theorem dJ2_compress_5af95_4 : decode cJ2_compress_5af95 4 = .ok (.invokestatic 173, 3) := by decide +kernel
theorem dJ2_compress_5af95_7 : decode cJ2_compress_5af95 7 = .ok (.iconst 0, 1) := by decide +kernel
theorem dJ2_compress_5af95_8 : decode cJ2_compress_5af95 8 = .ok (.istore 5, 2) := by decide +kernel
theorem dJ2_compress_5af95_10 : decode cJ2_compress_5af95 10 = .ok (.iload 5, 2) := by decide +kernel
theorem dJ2_compress_5af95_12 : decode cJ2_compress_5af95 12 = .ok (.iload 4, 2) := by decide +kernel
theorem dJ2_compress_5af95_14 : decode cJ2_compress_5af95 14 = .ok (.if_icmp .ge 39, 3) := by decide +kernel
theorem dJ2_compress_5af95_17 : decode cJ2_compress_5af95 17 = .ok (.aload_n 0, 1) := by decide +kernel
theorem dJ2_compress_5af95_18 : decode cJ2_compress_5af95 18 = .ok (.iload_n 1, 1) := by decide +kernel
theorem dJ2_compress_5af95_19 : decode cJ2_compress_5af95 19 = .ok (.invokestatic 71, 3) := by decide +kernel
theorem dJ2_compress_5af95_22 : decode cJ2_compress_5af95 22 = .ok (.istore 6, 2) := by decide +kernel
theorem dJ2_compress_5af95_24 : decode cJ2_compress_5af95 24 = .ok (.iload 6, 2) := by decide +kernel
theorem dJ2_compress_5af95_26 : decode cJ2_compress_5af95 26 = .ok (.sipush 255, 3) := by decide +kernel
theorem dJ2_compress_5af95_29 : decode cJ2_compress_5af95 29 = .ok (.if_icmp .le 6, 3) := by decide +kernel
theorem dJ2_compress_5af95_32 : decode cJ2_compress_5af95 32 = .ok (.iload 5, 2) := by decide +kernel
theorem dJ2_compress_5af95_34 : decode cJ2_compress_5af95 34 = .ok (.ireturn, 1) := by decide +kernel
theorem dJ2_compress_5af95_35 : decode cJ2_compress_5af95 35 = .ok (.aload_n 2, 1) := by decide +kernel
theorem dJ2_compress_5af95_36 : decode cJ2_compress_5af95 36 = .ok (.iload_n 3, 1) := by decide +kernel
theorem dJ2_compress_5af95_37 : decode cJ2_compress_5af95 37 = .ok (.iload 6, 2) := by decide +kernel
theorem dJ2_compress_5af95_39 : decode cJ2_compress_5af95 39 = .ok (.i2b, 1) := by decide +kernel
theorem dJ2_compress_5af95_40 : decode cJ2_compress_5af95 40 = .ok (.bastore, 1) := by decide +kernel
theorem dJ2_compress_5af95_41 : decode cJ2_compress_5af95 41 = .ok (.iinc 1 1, 3) := by decide +kernel
theorem dJ2_compress_5af95_44 : decode cJ2_compress_5af95 44 = .ok (.iinc 3 1, 3) := by decide +kernel
theorem dJ2_compress_5af95_47 : decode cJ2_compress_5af95 47 = .ok (.iinc 5 1, 3) := by decide +kernel
theorem dJ2_compress_5af95_50 : decode cJ2_compress_5af95 50 = .ok (.goto (-40), 3) := by decide +kernel
theorem dJ2_compress_5af95_53 : decode cJ2_compress_5af95 53 = .ok (.iload 4, 2) := by decide +kernel
theorem dJ2_compress_5af95_55 : decode cJ2_compress_5af95 55 = .ok (.ireturn, 1) := by decide +kernel
theorem dJ2_indexOf_4cfef_0 : decode cJ2_indexOf_4cfef 0 = .ok (.iload_n 2, 1) := by decide +kernel
theorem dJ2_indexOf_4cfef_1 : decode cJ2_indexOf_4cfef 1 = .ok (.iconst 0, 1) := by decide +kernel
theorem dJ2_indexOf_4cfef_2 : decode cJ2_indexOf_4cfef 2 = .ok (.invokestatic 224, 3) := by decide +kernel
theorem dJ2_indexOf_4cfef_5 : decode cJ2_indexOf_4cfef 5 = .ok (.istore_n 2, 1) := by decide +kernel
theorem dJ2_indexOf_4cfef_6 : decode cJ2_indexOf_4cfef 6 = .ok (.iload_n 3, 1) := by decide +kernel
theorem dJ2_indexOf_4cfef_7 : decode cJ2_indexOf_4cfef 7 = .ok (.aload_n 0, 1) := by decide +kernel
theorem dJ2_indexOf_4cfef_8 : decode cJ2_indexOf_4cfef 8 = .ok (.arraylength, 1) := by decide +kernel
theorem dJ2_indexOf_4cfef_9 : decode cJ2_indexOf_4cfef 9 = .ok (.iconst 1, 1) := by decide +kernel
theorem dJ2_indexOf_4cfef_10 : decode cJ2_indexOf_4cfef 10 = .ok (.ishr, 1) := by decide +kernel
theorem dJ2_indexOf_4cfef_11 : decode cJ2_indexOf_4cfef 11 = .ok (.invokestatic 183, 3) := by decide +kernel
theorem dJ2_indexOf_4cfef_14 : decode cJ2_indexOf_4cfef 14 = .ok (.istore_n 3, 1) := by decide +kernel
theorem dJ2_indexOf_4cfef_15 : decode cJ2_indexOf_4cfef 15 = .ok (.iload_n 2, 1) := by decide +kernel
theorem dJ2_indexOf_4cfef_16 : decode cJ2_indexOf_4cfef 16 = .ok (.iload_n 3, 1) := by decide +kernel
theorem dJ2_indexOf_4cfef_17 : decode cJ2_indexOf_4cfef 17 = .ok (.if_icmp .lt 5, 3) := by decide +kernel
theorem dJ2_indexOf_4cfef_20 : decode cJ2_indexOf_4cfef 20 = .ok (.iconst (-1), 1) := by decide +kernel
theorem dJ2_indexOf_4cfef_21 : decode cJ2_indexOf_4cfef 21 = .ok (.ireturn, 1) := by decide +kernel
theorem dJ2_indexOf_4cfef_22 : decode cJ2_indexOf_4cfef 22 = .ok (.iload_n 1, 1) := by decide +kernel
theorem dJ2_indexOf_4cfef_23 : decode cJ2_indexOf_4cfef 23 = .ok (.ldc 227, 2) := by decide +kernel
theorem dJ2_indexOf_4cfef_25 : decode cJ2_indexOf_4cfef 25 = .ok (.if_icmp .ge 11, 3) := by decide +kernel
theorem dJ2_indexOf_4cfef_28 : decode cJ2_indexOf_4cfef 28 = .ok (.aload_n 0, 1) := by decide +kernel
theorem dJ2_indexOf_4cfef_29 : decode cJ2_indexOf_4cfef 29 = .ok (.iload_n 1, 1) := by decide +kernel
theorem dJ2_indexOf_4cfef_30 : decode cJ2_indexOf_4cfef 30 = .ok (.iload_n 2, 1) := by decide +kernel
theorem dJ2_indexOf_4cfef_31 : decode cJ2_indexOf_4cfef 31 = .ok (.iload_n 3, 1) := by decide +kernel
theorem dJ2_indexOf_4cfef_32 : decode cJ2_indexOf_4cfef 32 = .ok (.invokestatic 228, 3) := by decide +kernel
theorem dJ2_indexOf_4cfef_35 : decode cJ2_indexOf_4cfef 35 = .ok (.ireturn, 1) := by decide +kernel
theorem dJ2_indexOf_4cfef_36 : decode cJ2_indexOf_4cfef 36 = .ok (.aload_n 0, 1) := by decide +kernel
theorem dJ2_indexOf_4cfef_37 : decode cJ2_indexOf_4cfef 37 = .ok (.iload_n 1, 1) := by decide +kernel
theorem dJ2_indexOf_4cfef_38 : decode cJ2_indexOf_4cfef 38 = .ok (.iload_n 2, 1) := by decide +kernel
theorem dJ2_indexOf_4cfef_39 : decode cJ2_indexOf_4cfef 39 = .ok (.iload_n 3, 1) := by decide +kernel
theorem dJ2_indexOf_4cfef_40 : decode cJ2_indexOf_4cfef 40 = .ok (.invokestatic 232, 3) := by decide +kernel
theorem dJ2_indexOf_4cfef_43 : decode cJ2_indexOf_4cfef 43 = .ok (.ireturn, 1) := by decide +kernel
theorem dJ2_indexOfChar_4cfef_0 : decode cJ2_indexOfChar_4cfef 0 = .ok (.iload_n 2, 1) := by decide +kernel
theorem dJ2_indexOfChar_4cfef_1 : decode cJ2_indexOfChar_4cfef 1 = .ok (.iload_n 3, 1) := by decide +kernel
theorem dJ2_indexOfChar_4cfef_2 : decode cJ2_indexOfChar_4cfef 2 = .ok (.aload_n 0, 1) := by decide +kernel
theorem dJ2_indexOfChar_4cfef_3 : decode cJ2_indexOfChar_4cfef 3 = .ok (.invokestatic 96, 3) := by decide +kernel
theorem dJ2_indexOfChar_4cfef_6 : decode cJ2_indexOfChar_4cfef 6 = .ok (.aload_n 0, 1) := by decide +kernel
theorem dJ2_indexOfChar_4cfef_7 : decode cJ2_indexOfChar_4cfef 7 = .ok (.iload_n 1, 1) := by decide +kernel
theorem dJ2_indexOfChar_4cfef_8 : decode cJ2_indexOfChar_4cfef 8 = .ok (.iload_n 2, 1) := by decide +kernel
theorem dJ2_indexOfChar_4cfef_9 : decode cJ2_indexOfChar_4cfef 9 = .ok (.iload_n 3, 1) := by decide +kernel
theorem dJ2_indexOfChar_4cfef_10 : decode cJ2_indexOfChar_4cfef 10 = .ok (.invokestatic 244, 3) := by decide +kernel
theorem dJ2_indexOfChar_4cfef_13 : decode cJ2_indexOfChar_4cfef 13 = .ok (.ireturn, 1) := by decide +kernel
theorem dJ2_indexOfCharUnsafe_4cfef_0 : decode cJ2_indexOfCharUnsafe_4cfef 0 = .ok (.iload_n 2, 1) := by decide +kernel
theorem dJ2_indexOfCharUnsafe_4cfef_1 : decode cJ2_indexOfCharUnsafe_4cfef 1 = .ok (.istore 4, 2) := by decide +kernel
theorem dJ2_indexOfCharUnsafe_4cfef_3 : decode cJ2_indexOfCharUnsafe_4cfef 3 = .ok (.iload 4, 2) := by decide +kernel
theorem dJ2_indexOfCharUnsafe_4cfef_5 : decode cJ2_indexOfCharUnsafe_4cfef 5 = .ok (.iload_n 3, 1) := by decide +kernel
theorem dJ2_indexOfCharUnsafe_4cfef_6 : decode cJ2_indexOfCharUnsafe_4cfef 6 = .ok (.if_icmp .ge 22, 3) := by decide +kernel
theorem dJ2_indexOfCharUnsafe_4cfef_9 : decode cJ2_indexOfCharUnsafe_4cfef 9 = .ok (.aload_n 0, 1) := by decide +kernel
theorem dJ2_indexOfCharUnsafe_4cfef_10 : decode cJ2_indexOfCharUnsafe_4cfef 10 = .ok (.iload 4, 2) := by decide +kernel
theorem dJ2_indexOfCharUnsafe_4cfef_12 : decode cJ2_indexOfCharUnsafe_4cfef 12 = .ok (.invokestatic 71, 3) := by decide +kernel
theorem dJ2_indexOfCharUnsafe_4cfef_15 : decode cJ2_indexOfCharUnsafe_4cfef 15 = .ok (.iload_n 1, 1) := by decide +kernel
theorem dJ2_indexOfCharUnsafe_4cfef_16 : decode cJ2_indexOfCharUnsafe_4cfef 16 = .ok (.if_icmp .ne 6, 3) := by decide +kernel
theorem dJ2_indexOfCharUnsafe_4cfef_19 : decode cJ2_indexOfCharUnsafe_4cfef 19 = .ok (.iload 4, 2) := by decide +kernel
theorem dJ2_indexOfCharUnsafe_4cfef_21 : decode cJ2_indexOfCharUnsafe_4cfef 21 = .ok (.ireturn, 1) := by decide +kernel
theorem dJ2_indexOfCharUnsafe_4cfef_22 : decode cJ2_indexOfCharUnsafe_4cfef 22 = .ok (.iinc 4 1, 3) := by decide +kernel
theorem dJ2_indexOfCharUnsafe_4cfef_25 : decode cJ2_indexOfCharUnsafe_4cfef 25 = .ok (.goto (-22), 3) := by decide +kernel
theorem dJ2_indexOfCharUnsafe_4cfef_28 : decode cJ2_indexOfCharUnsafe_4cfef 28 = .ok (.iconst (-1), 1) := by decide +kernel
theorem dJ2_indexOfCharUnsafe_4cfef_29 : decode cJ2_indexOfCharUnsafe_4cfef 29 = .ok (.ireturn, 1) := by decide +kernel
theorem dJ2_indexOfSupplementary_4cfef_0 : decode cJ2_indexOfSupplementary_4cfef 0 = .ok (.iload_n 1, 1) := by decide +kernel
theorem dJ2_indexOfSupplementary_4cfef_1 : decode cJ2_indexOfSupplementary_4cfef 1 = .ok (.invokestatic 164, 3) := by decide +kernel
theorem dJ2_indexOfSupplementary_4cfef_4 : decode cJ2_indexOfSupplementary_4cfef 4 = .ok (.ifCond .eq 65, 3) := by decide +kernel
theorem dJ2_indexOfSupplementary_4cfef_7 : decode cJ2_indexOfSupplementary_4cfef 7 = .ok (.iload_n 1, 1) := by decide +kernel
theorem dJ2_indexOfSupplementary_4cfef_8 : decode cJ2_indexOfSupplementary_4cfef 8 = .ok (.invokestatic 157, 3) := by decide +kernel
theorem dJ2_indexOfSupplementary_4cfef_11 : decode cJ2_indexOfSupplementary_4cfef 11 = .ok (.istore 4, 2) := by decide +kernel
theorem dJ2_indexOfSupplementary_4cfef_13 : decode cJ2_indexOfSupplementary_4cfef 13 = .ok (.iload_n 1, 1) := by decide +kernel
theorem dJ2_indexOfSupplementary_4cfef_14 : decode cJ2_indexOfSupplementary_4cfef 14 = .ok (.invokestatic 161, 3) := by decide +kernel
theorem dJ2_indexOfSupplementary_4cfef_17 : decode cJ2_indexOfSupplementary_4cfef 17 = .ok (.istore 5, 2) := by decide +kernel
theorem dJ2_indexOfSupplementary_4cfef_19 : decode cJ2_indexOfSupplementary_4cfef 19 = .ok (.iload_n 2, 1) := by decide +kernel
theorem dJ2_indexOfSupplementary_4cfef_20 : decode cJ2_indexOfSupplementary_4cfef 20 = .ok (.iload_n 3, 1) := by decide +kernel
theorem dJ2_indexOfSupplementary_4cfef_21 : decode cJ2_indexOfSupplementary_4cfef 21 = .ok (.aload_n 0, 1) := by decide +kernel
theorem dJ2_indexOfSupplementary_4cfef_22 : decode cJ2_indexOfSupplementary_4cfef 22 = .ok (.invokestatic 96, 3) := by decide +kernel
theorem dJ2_indexOfSupplementary_4cfef_25 : decode cJ2_indexOfSupplementary_4cfef 25 = .ok (.iload_n 2, 1) := by decide +kernel
theorem dJ2_indexOfSupplementary_4cfef_26 : decode cJ2_indexOfSupplementary_4cfef 26 = .ok (.istore 6, 2) := by decide +kernel
theorem dJ2_indexOfSupplementary_4cfef_28 : decode cJ2_indexOfSupplementary_4cfef 28 = .ok (.iload 6, 2) := by decide +kernel
theorem dJ2_indexOfSupplementary_4cfef_30 : decode cJ2_indexOfSupplementary_4cfef 30 = .ok (.iload_n 3, 1) := by decide +kernel
theorem dJ2_indexOfSupplementary_4cfef_31 : decode cJ2_indexOfSupplementary_4cfef 31 = .ok (.iconst 1, 1) := by decide +kernel
theorem dJ2_indexOfSupplementary_4cfef_32 : decode cJ2_indexOfSupplementary_4cfef 32 = .ok (.isub, 1) := by decide +kernel
theorem dJ2_indexOfSupplementary_4cfef_33 : decode cJ2_indexOfSupplementary_4cfef 33 = .ok (.if_icmp .ge 36, 3) := by decide +kernel
theorem dJ2_indexOfSupplementary_4cfef_36 : decode cJ2_indexOfSupplementary_4cfef 36 = .ok (.aload_n 0, 1) := by decide +kernel
theorem dJ2_indexOfSupplementary_4cfef_37 : decode cJ2_indexOfSupplementary_4cfef 37 = .ok (.iload 6, 2) := by decide +kernel
theorem dJ2_indexOfSupplementary_4cfef_39 : decode cJ2_indexOfSupplementary_4cfef 39 = .ok (.invokestatic 71, 3) := by decide +kernel
theorem dJ2_indexOfSupplementary_4cfef_42 : decode cJ2_indexOfSupplementary_4cfef 42 = .ok (.iload 4, 2) := by decide +kernel
theorem dJ2_indexOfSupplementary_4cfef_44 : decode cJ2_indexOfSupplementary_4cfef 44 = .ok (.if_icmp .ne 19, 3) := by decide +kernel
theorem dJ2_indexOfSupplementary_4cfef_47 : decode cJ2_indexOfSupplementary_4cfef 47 = .ok (.aload_n 0, 1) := by decide +kernel
theorem dJ2_indexOfSupplementary_4cfef_48 : decode cJ2_indexOfSupplementary_4cfef 48 = .ok (.iload 6, 2) := by decide +kernel
theorem dJ2_indexOfSupplementary_4cfef_50 : decode cJ2_indexOfSupplementary_4cfef 50 = .ok (.iconst 1, 1) := by decide +kernel
theorem dJ2_indexOfSupplementary_4cfef_51 : decode cJ2_indexOfSupplementary_4cfef 51 = .ok (.iadd, 1) := by decide +kernel
theorem dJ2_indexOfSupplementary_4cfef_52 : decode cJ2_indexOfSupplementary_4cfef 52 = .ok (.invokestatic 71, 3) := by decide +kernel
theorem dJ2_indexOfSupplementary_4cfef_55 : decode cJ2_indexOfSupplementary_4cfef 55 = .ok (.iload 5, 2) := by decide +kernel
theorem dJ2_indexOfSupplementary_4cfef_57 : decode cJ2_indexOfSupplementary_4cfef 57 = .ok (.if_icmp .ne 6, 3) := by decide +kernel
theorem dJ2_indexOfSupplementary_4cfef_60 : decode cJ2_indexOfSupplementary_4cfef 60 = .ok (.iload 6, 2) := by decide +kernel
theorem dJ2_indexOfSupplementary_4cfef_62 : decode cJ2_indexOfSupplementary_4cfef 62 = .ok (.ireturn, 1) := by decide +kernel
theorem dJ2_indexOfSupplementary_4cfef_63 : decode cJ2_indexOfSupplementary_4cfef 63 = .ok (.iinc 6 1, 3) := by decide +kernel
theorem dJ2_indexOfSupplementary_4cfef_66 : decode cJ2_indexOfSupplementary_4cfef 66 = .ok (.goto (-38), 3) := by decide +kernel
theorem dJ2_indexOfSupplementary_4cfef_69 : decode cJ2_indexOfSupplementary_4cfef 69 = .ok (.iconst (-1), 1) := by decide +kernel
theorem dJ2_indexOfSupplementary_4cfef_70 : decode cJ2_indexOfSupplementary_4cfef 70 = .ok (.ireturn, 1) := by decide +kernel
theorem dJ2_putCharSB_b72d1_0 : decode cJ2_putCharSB_b72d1 0 = .ok (.iload_n 1, 1) := by decide +kernel
theorem dJ2_putCharSB_b72d1_1 : decode cJ2_putCharSB_b72d1 1 = .ok (.aload_n 0, 1) := by decide +kernel
theorem dJ2_putCharSB_b72d1_2 : decode cJ2_putCharSB_b72d1 2 = .ok (.invokestatic 67, 3) := by decide +kernel
theorem dJ2_putCharSB_b72d1_5 : decode cJ2_putCharSB_b72d1 5 = .ok (.aload_n 0, 1) := by decide +kernel
theorem dJ2_putCharSB_b72d1_6 : decode cJ2_putCharSB_b72d1 6 = .ok (.iload_n 1, 1) := by decide +kernel
theorem dJ2_putCharSB_b72d1_7 : decode cJ2_putCharSB_b72d1 7 = .ok (.iload_n 2, 1) := by decide +kernel
theorem dJ2_putCharSB_b72d1_8 : decode cJ2_putCharSB_b72d1 8 = .ok (.invokestatic 111, 3) := by decide +kernel
theorem dJ2_putCharSB_b72d1_11 : decode cJ2_putCharSB_b72d1 11 = .ok (.return_, 1) := by decide +kernel
theorem dJ2_getChars_46870_0 : decode cJ2_getChars_46870 0 = .ok (.iload_n 1, 1) := by decide +kernel
theorem dJ2_getChars_46870_1 : decode cJ2_getChars_46870 1 = .ok (.iload_n 2, 1) := by decide +kernel
theorem dJ2_getChars_46870_2 : decode cJ2_getChars_46870 2 = .ok (.aload_n 3, 1) := by decide +kernel
theorem dJ2_getChars_46870_3 : decode cJ2_getChars_46870 3 = .ok (.invokestatic 96, 3) := by decide +kernel
theorem dJ2_getChars_46870_6 : decode cJ2_getChars_46870 6 = .ok (.iload_n 0, 1) := by decide +kernel
theorem dJ2_getChars_46870_7 : decode cJ2_getChars_46870 7 = .ok (.iload_n 2, 1) := by decide +kernel
theorem dJ2_getChars_46870_8 : decode cJ2_getChars_46870 8 = .ok (.aload_n 3, 1) := by decide +kernel
theorem dJ2_getChars_46870_9 : decode cJ2_getChars_46870 9 = .ok (.invokestatic 393, 3) := by decide +kernel
theorem dJ2_getChars_46870_12 : decode cJ2_getChars_46870 12 = .ok (.istore 4, 2) := by decide +kernel
theorem dJ2_getChars_46870_14 : decode cJ2_getChars_46870 14 = .ok (.getstatic 44, 3) := by decide +kernel
theorem dJ2_getChars_46870_17 : decode cJ2_getChars_46870 17 = .ok (.ifCond .ne 17, 3) := by decide +kernel
theorem dJ2_getChars_46870_20 : decode cJ2_getChars_46870 20 = .ok (.iload_n 1, 1) := by decide +kernel
theorem dJ2_getChars_46870_21 : decode cJ2_getChars_46870 21 = .ok (.iload 4, 2) := by decide +kernel
theorem dJ2_getChars_46870_23 : decode cJ2_getChars_46870 23 = .ok (.if_icmp .eq 11, 3) := by decide +kernel
theorem dJ2_getChars_46870_26 : decode cJ2_getChars_46870 26 = .ok (.new 52, 3) := by decide +kernel
theorem dJ2_getChars_46870_29 : decode cJ2_getChars_46870 29 = .ok (.dup, 1) := by decide +kernel
theorem dJ2_getChars_46870_30 : decode cJ2_getChars_46870 30 = .ok (.invokespecial 66, 3) := by decide +kernel
theorem dJ2_getChars_46870_33 : decode cJ2_getChars_46870 33 = .ok (.athrow, 1) := by decide +kernel
theorem dJ2_getChars_46870_34 : decode cJ2_getChars_46870 34 = .ok (.iload 4, 2) := by decide +kernel
theorem dJ2_getChars_46870_36 : decode cJ2_getChars_46870 36 = .ok (.ireturn, 1) := by decide +kernel
theorem dJ2_putCharsAt_cd4e5_0 : decode cJ2_putCharsAt_cd4e5 0 = .ok (.iload_n 1, 1) := by decide +kernel
theorem dJ2_putCharsAt_cd4e5_1 : decode cJ2_putCharsAt_cd4e5 1 = .ok (.iconst 4, 1) := by decide +kernel
theorem dJ2_putCharsAt_cd4e5_2 : decode cJ2_putCharsAt_cd4e5 2 = .ok (.iadd, 1) := by decide +kernel
theorem dJ2_putCharsAt_cd4e5_3 : decode cJ2_putCharsAt_cd4e5 3 = .ok (.istore 6, 2) := by decide +kernel
theorem dJ2_putCharsAt_cd4e5_5 : decode cJ2_putCharsAt_cd4e5 5 = .ok (.iload_n 1, 1) := by decide +kernel
theorem dJ2_putCharsAt_cd4e5_6 : decode cJ2_putCharsAt_cd4e5 6 = .ok (.iload 6, 2) := by decide +kernel
theorem dJ2_putCharsAt_cd4e5_8 : decode cJ2_putCharsAt_cd4e5 8 = .ok (.aload_n 0, 1) := by decide +kernel
theorem dJ2_putCharsAt_cd4e5_9 : decode cJ2_putCharsAt_cd4e5 9 = .ok (.invokestatic 96, 3) := by decide +kernel
theorem dJ2_putCharsAt_cd4e5_12 : decode cJ2_putCharsAt_cd4e5 12 = .ok (.aload_n 0, 1) := by decide +kernel
theorem dJ2_putCharsAt_cd4e5_13 : decode cJ2_putCharsAt_cd4e5 13 = .ok (.iload_n 1, 1) := by decide +kernel
theorem dJ2_putCharsAt_cd4e5_14 : decode cJ2_putCharsAt_cd4e5 14 = .ok (.iinc 1 1, 3) := by decide +kernel
theorem dJ2_putCharsAt_cd4e5_17 : decode cJ2_putCharsAt_cd4e5 17 = .ok (.iload_n 2, 1) := by decide +kernel
theorem dJ2_putCharsAt_cd4e5_18 : decode cJ2_putCharsAt_cd4e5 18 = .ok (.invokestatic 111, 3) := by decide +kernel
theorem dJ2_putCharsAt_cd4e5_21 : decode cJ2_putCharsAt_cd4e5 21 = .ok (.aload_n 0, 1) := by decide +kernel
theorem dJ2_putCharsAt_cd4e5_22 : decode cJ2_putCharsAt_cd4e5 22 = .ok (.iload_n 1, 1) := by decide +kernel
theorem dJ2_putCharsAt_cd4e5_23 : decode cJ2_putCharsAt_cd4e5 23 = .ok (.iinc 1 1, 3) := by decide +kernel
theorem dJ2_putCharsAt_cd4e5_26 : decode cJ2_putCharsAt_cd4e5 26 = .ok (.iload_n 3, 1) := by decide +kernel
theorem dJ2_putCharsAt_cd4e5_27 : decode cJ2_putCharsAt_cd4e5 27 = .ok (.invokestatic 111, 3) := by decide +kernel
theorem dJ2_putCharsAt_cd4e5_30 : decode cJ2_putCharsAt_cd4e5 30 = .ok (.aload_n 0, 1) := by decide +kernel
theorem dJ2_putCharsAt_cd4e5_31 : decode cJ2_putCharsAt_cd4e5 31 = .ok (.iload_n 1, 1) := by decide +kernel
theorem dJ2_putCharsAt_cd4e5_32 : decode cJ2_putCharsAt_cd4e5 32 = .ok (.iinc 1 1, 3) := by decide +kernel
theorem dJ2_putCharsAt_cd4e5_35 : decode cJ2_putCharsAt_cd4e5 35 = .ok (.iload 4, 2) := by decide +kernel
theorem dJ2_putCharsAt_cd4e5_37 : decode cJ2_putCharsAt_cd4e5 37 = .ok (.invokestatic 111, 3) := by decide +kernel
theorem dJ2_putCharsAt_cd4e5_40 : decode cJ2_putCharsAt_cd4e5 40 = .ok (.aload_n 0, 1) := by decide +kernel
theorem dJ2_putCharsAt_cd4e5_41 : decode cJ2_putCharsAt_cd4e5 41 = .ok (.iload_n 1, 1) := by decide +kernel
theorem dJ2_putCharsAt_cd4e5_42 : decode cJ2_putCharsAt_cd4e5 42 = .ok (.iinc 1 1, 3) := by decide +kernel
theorem dJ2_putCharsAt_cd4e5_45 : decode cJ2_putCharsAt_cd4e5 45 = .ok (.iload 5, 2) := by decide +kernel
theorem dJ2_putCharsAt_cd4e5_47 : decode cJ2_putCharsAt_cd4e5 47 = .ok (.invokestatic 111, 3) := by decide +kernel
theorem dJ2_putCharsAt_cd4e5_50 : decode cJ2_putCharsAt_cd4e5 50 = .ok (.getstatic 44, 3) := by decide +kernel
theorem dJ2_putCharsAt_cd4e5_53 : decode cJ2_putCharsAt_cd4e5 53 = .ok (.ifCond .ne 17, 3) := by decide +kernel
theorem dJ2_putCharsAt_cd4e5_56 : decode cJ2_putCharsAt_cd4e5 56 = .ok (.iload_n 1, 1) := by decide +kernel
theorem dJ2_putCharsAt_cd4e5_57 : decode cJ2_putCharsAt_cd4e5 57 = .ok (.iload 6, 2) := by decide +kernel
theorem dJ2_putCharsAt_cd4e5_59 : decode cJ2_putCharsAt_cd4e5 59 = .ok (.if_icmp .eq 11, 3) := by decide +kernel
theorem dJ2_putCharsAt_cd4e5_62 : decode cJ2_putCharsAt_cd4e5 62 = .ok (.new 52, 3) := by decide +kernel
theorem dJ2_putCharsAt_cd4e5_65 : decode cJ2_putCharsAt_cd4e5 65 = .ok (.dup, 1) := by decide +kernel
theorem dJ2_putCharsAt_cd4e5_66 : decode cJ2_putCharsAt_cd4e5 66 = .ok (.invokespecial 66, 3) := by decide +kernel
theorem dJ2_putCharsAt_cd4e5_69 : decode cJ2_putCharsAt_cd4e5 69 = .ok (.athrow, 1) := by decide +kernel
theorem dJ2_putCharsAt_cd4e5_70 : decode cJ2_putCharsAt_cd4e5 70 = .ok (.iload 6, 2) := by decide +kernel
theorem dJ2_putCharsAt_cd4e5_72 : decode cJ2_putCharsAt_cd4e5 72 = .ok (.ireturn, 1) := by decide +kernel
theorem dJ2_charAt_3b067_0 : decode cJ2_charAt_3b067 0 = .ok (.iload_n 1, 1) := by decide +kernel
theorem dJ2_charAt_3b067_1 : decode cJ2_charAt_3b067 1 = .ok (.aload_n 0, 1) := by decide +kernel
theorem dJ2_charAt_3b067_2 : decode cJ2_charAt_3b067 2 = .ok (.invokestatic 67, 3) := by decide +kernel
theorem dJ2_charAt_3b067_5 : decode cJ2_charAt_3b067 5 = .ok (.aload_n 0, 1) := by decide +kernel
theorem dJ2_charAt_3b067_6 : decode cJ2_charAt_3b067 6 = .ok (.iload_n 1, 1) := by decide +kernel
theorem dJ2_charAt_3b067_7 : decode cJ2_charAt_3b067 7 = .ok (.invokestatic 71, 3) := by decide +kernel
theorem dJ2_charAt_3b067_10 : decode cJ2_charAt_3b067 10 = .ok (.ireturn, 1) := by decide +kernel
theorem dJ2_inflate_0e8fd_0 : decode cJ2_inflate_0e8fd 0 = .ok (.iload_n 3, 1) := by decide +kernel
theorem dJ2_inflate_0e8fd_1 : decode cJ2_inflate_0e8fd 1 = .ok (.iload 4, 2) := by decide +kernel
theorem dJ2_inflate_0e8fd_3 : decode cJ2_inflate_0e8fd 3 = .ok (.aload_n 2, 1) := by decide +kernel
theorem dJ2_inflate_0e8fd_4 : decode cJ2_inflate_0e8fd 4 = .ok (.invokestatic 173, 3) := by decide +kernel
theorem dJ2_inflate_0e8fd_7 : decode cJ2_inflate_0e8fd 7 = .ok (.iconst 0, 1) := by decide +kernel
theorem dJ2_inflate_0e8fd_8 : decode cJ2_inflate_0e8fd 8 = .ok (.istore 5, 2) := by decide +kernel
theorem dJ2_inflate_0e8fd_10 : decode cJ2_inflate_0e8fd 10 = .ok (.iload 5, 2) := by decide +kernel
theorem dJ2_inflate_0e8fd_12 : decode cJ2_inflate_0e8fd 12 = .ok (.iload 4, 2) := by decide +kernel
theorem dJ2_inflate_0e8fd_14 : decode cJ2_inflate_0e8fd 14 = .ok (.if_icmp .ge 27, 3) := by decide +kernel
theorem dJ2_inflate_0e8fd_17 : decode cJ2_inflate_0e8fd 17 = .ok (.aload_n 2, 1) := by decide +kernel
theorem dJ2_inflate_0e8fd_18 : decode cJ2_inflate_0e8fd 18 = .ok (.iload_n 3, 1) := by decide +kernel
theorem dJ2_inflate_0e8fd_19 : decode cJ2_inflate_0e8fd 19 = .ok (.iinc 3 1, 3) := by decide +kernel
theorem dJ2_inflate_0e8fd_22 : decode cJ2_inflate_0e8fd 22 = .ok (.aload_n 0, 1) := by decide +kernel
theorem dJ2_inflate_0e8fd_23 : decode cJ2_inflate_0e8fd 23 = .ok (.iload_n 1, 1) := by decide +kernel
theorem dJ2_inflate_0e8fd_24 : decode cJ2_inflate_0e8fd 24 = .ok (.iinc 1 1, 3) := by decide +kernel
theorem dJ2_inflate_0e8fd_27 : decode cJ2_inflate_0e8fd 27 = .ok (.baload, 1) := by decide +kernel
theorem dJ2_inflate_0e8fd_28 : decode cJ2_inflate_0e8fd 28 = .ok (.sipush 255, 3) := by decide +kernel
theorem dJ2_inflate_0e8fd_31 : decode cJ2_inflate_0e8fd 31 = .ok (.iand, 1) := by decide +kernel
theorem dJ2_inflate_0e8fd_32 : decode cJ2_inflate_0e8fd 32 = .ok (.invokestatic 111, 3) := by decide +kernel
theorem dJ2_inflate_0e8fd_35 : decode cJ2_inflate_0e8fd 35 = .ok (.iinc 5 1, 3) := by decide +kernel
theorem dJ2_inflate_0e8fd_38 : decode cJ2_inflate_0e8fd 38 = .ok (.goto (-28), 3) := by decide +kernel
theorem dJ2_inflate_0e8fd_41 : decode cJ2_inflate_0e8fd 41 = .ok (.return_, 1) := by decide +kernel
theorem dJ2_getChars_ba4f3_0 : decode cJ2_getChars_ba4f3 0 = .ok (.iload_n 1, 1) := by decide +kernel
theorem dJ2_getChars_ba4f3_1 : decode cJ2_getChars_ba4f3 1 = .ok (.istore 5, 2) := by decide +kernel
theorem dJ2_getChars_ba4f3_3 : decode cJ2_getChars_ba4f3 3 = .ok (.iload_n 0, 1) := by decide +kernel
theorem dJ2_getChars_ba4f3_4 : decode cJ2_getChars_ba4f3 4 = .ok (.ifCond .ge 7, 3) := by decide +kernel
theorem dJ2_getChars_ba4f3_7 : decode cJ2_getChars_ba4f3 7 = .ok (.iconst 1, 1) := by decide +kernel
theorem dJ2_getChars_ba4f3_8 : decode cJ2_getChars_ba4f3 8 = .ok (.goto 4, 3) := by decide +kernel
theorem dJ2_getChars_ba4f3_11 : decode cJ2_getChars_ba4f3 11 = .ok (.iconst 0, 1) := by decide +kernel
theorem dJ2_getChars_ba4f3_12 : decode cJ2_getChars_ba4f3 12 = .ok (.istore 6, 2) := by decide +kernel
theorem dJ2_getChars_ba4f3_14 : decode cJ2_getChars_ba4f3 14 = .ok (.iload 6, 2) := by decide +kernel
theorem dJ2_getChars_ba4f3_16 : decode cJ2_getChars_ba4f3 16 = .ok (.ifCond .ne 6, 3) := by decide +kernel
theorem dJ2_getChars_ba4f3_19 : decode cJ2_getChars_ba4f3 19 = .ok (.iload_n 0, 1) := by decide +kernel
theorem dJ2_getChars_ba4f3_20 : decode cJ2_getChars_ba4f3 20 = .ok (.ineg, 1) := by decide +kernel
theorem dJ2_getChars_ba4f3_21 : decode cJ2_getChars_ba4f3 21 = .ok (.istore_n 0, 1) := by decide +kernel
theorem dJ2_getChars_ba4f3_22 : decode cJ2_getChars_ba4f3 22 = .ok (.iload_n 0, 1) := by decide +kernel
theorem dJ2_getChars_ba4f3_23 : decode cJ2_getChars_ba4f3 23 = .ok (.bipush (-100), 2) := by decide +kernel
theorem dJ2_getChars_ba4f3_25 : decode cJ2_getChars_ba4f3 25 = .ok (.if_icmp .gt 51, 3) := by decide +kernel
theorem dJ2_getChars_ba4f3_28 : decode cJ2_getChars_ba4f3 28 = .ok (.iload_n 0, 1) := by decide +kernel
theorem dJ2_getChars_ba4f3_29 : decode cJ2_getChars_ba4f3 29 = .ok (.bipush 100, 2) := by decide +kernel
theorem dJ2_getChars_ba4f3_31 : decode cJ2_getChars_ba4f3 31 = .ok (.idiv, 1) := by decide +kernel
theorem dJ2_getChars_ba4f3_32 : decode cJ2_getChars_ba4f3 32 = .ok (.istore_n 3, 1) := by decide +kernel
theorem dJ2_getChars_ba4f3_33 : decode cJ2_getChars_ba4f3 33 = .ok (.iload_n 3, 1) := by decide +kernel
theorem dJ2_getChars_ba4f3_34 : decode cJ2_getChars_ba4f3 34 = .ok (.bipush 100, 2) := by decide +kernel
theorem dJ2_getChars_ba4f3_36 : decode cJ2_getChars_ba4f3 36 = .ok (.imul, 1) := by decide +kernel
theorem dJ2_getChars_ba4f3_37 : decode cJ2_getChars_ba4f3 37 = .ok (.iload_n 0, 1) := by decide +kernel
theorem dJ2_getChars_ba4f3_38 : decode cJ2_getChars_ba4f3 38 = .ok (.isub, 1) := by decide +kernel
theorem dJ2_getChars_ba4f3_39 : decode cJ2_getChars_ba4f3 39 = .ok (.istore 4, 2) := by decide +kernel
theorem dJ2_getChars_ba4f3_41 : decode cJ2_getChars_ba4f3 41 = .ok (.iload_n 3, 1) := by decide +kernel
theorem dJ2_getChars_ba4f3_42 : decode cJ2_getChars_ba4f3 42 = .ok (.istore_n 0, 1) := by decide +kernel
theorem dJ2_getChars_ba4f3_43 : decode cJ2_getChars_ba4f3 43 = .ok (.aload_n 2, 1) := by decide +kernel
theorem dJ2_getChars_ba4f3_44 : decode cJ2_getChars_ba4f3 44 = .ok (.iinc 5 (-1), 3) := by decide +kernel
theorem dJ2_getChars_ba4f3_47 : decode cJ2_getChars_ba4f3 47 = .ok (.iload 5, 2) := by decide +kernel
theorem dJ2_getChars_ba4f3_49 : decode cJ2_getChars_ba4f3 49 = .ok (.getstatic 403, 3) := by decide +kernel
theorem dJ2_getChars_ba4f3_52 : decode cJ2_getChars_ba4f3 52 = .ok (.iload 4, 2) := by decide +kernel
theorem dJ2_getChars_ba4f3_54 : decode cJ2_getChars_ba4f3 54 = .ok (.baload, 1) := by decide +kernel
theorem dJ2_getChars_ba4f3_55 : decode cJ2_getChars_ba4f3 55 = .ok (.invokestatic 111, 3) := by decide +kernel
theorem dJ2_getChars_ba4f3_58 : decode cJ2_getChars_ba4f3 58 = .ok (.aload_n 2, 1) := by decide +kernel
theorem dJ2_getChars_ba4f3_59 : decode cJ2_getChars_ba4f3 59 = .ok (.iinc 5 (-1), 3) := by decide +kernel
theorem dJ2_getChars_ba4f3_62 : decode cJ2_getChars_ba4f3 62 = .ok (.iload 5, 2) := by decide +kernel
theorem dJ2_getChars_ba4f3_64 : decode cJ2_getChars_ba4f3 64 = .ok (.getstatic 407, 3) := by decide +kernel
theorem dJ2_getChars_ba4f3_67 : decode cJ2_getChars_ba4f3 67 = .ok (.iload 4, 2) := by decide +kernel
theorem dJ2_getChars_ba4f3_69 : decode cJ2_getChars_ba4f3 69 = .ok (.baload, 1) := by decide +kernel
theorem dJ2_getChars_ba4f3_70 : decode cJ2_getChars_ba4f3 70 = .ok (.invokestatic 111, 3) := by decide +kernel
theorem dJ2_getChars_ba4f3_73 : decode cJ2_getChars_ba4f3 73 = .ok (.goto (-51), 3) := by decide +kernel
theorem dJ2_getChars_ba4f3_76 : decode cJ2_getChars_ba4f3 76 = .ok (.aload_n 2, 1) := by decide +kernel
theorem dJ2_getChars_ba4f3_77 : decode cJ2_getChars_ba4f3 77 = .ok (.iinc 5 (-1), 3) := by decide +kernel
theorem dJ2_getChars_ba4f3_80 : decode cJ2_getChars_ba4f3 80 = .ok (.iload 5, 2) := by decide +kernel
theorem dJ2_getChars_ba4f3_82 : decode cJ2_getChars_ba4f3 82 = .ok (.getstatic 403, 3) := by decide +kernel
theorem dJ2_getChars_ba4f3_85 : decode cJ2_getChars_ba4f3 85 = .ok (.iload_n 0, 1) := by decide +kernel
theorem dJ2_getChars_ba4f3_86 : decode cJ2_getChars_ba4f3 86 = .ok (.ineg, 1) := by decide +kernel
theorem dJ2_getChars_ba4f3_87 : decode cJ2_getChars_ba4f3 87 = .ok (.baload, 1) := by decide +kernel
theorem dJ2_getChars_ba4f3_88 : decode cJ2_getChars_ba4f3 88 = .ok (.invokestatic 111, 3) := by decide +kernel
theorem dJ2_getChars_ba4f3_91 : decode cJ2_getChars_ba4f3 91 = .ok (.iload_n 0, 1) := by decide +kernel
theorem dJ2_getChars_ba4f3_92 : decode cJ2_getChars_ba4f3 92 = .ok (.bipush (-9), 2) := by decide +kernel
theorem dJ2_getChars_ba4f3_94 : decode cJ2_getChars_ba4f3 94 = .ok (.if_icmp .ge 18, 3) := by decide +kernel
theorem dJ2_getChars_ba4f3_97 : decode cJ2_getChars_ba4f3 97 = .ok (.aload_n 2, 1) := by decide +kernel
theorem dJ2_getChars_ba4f3_98 : decode cJ2_getChars_ba4f3 98 = .ok (.iinc 5 (-1), 3) := by decide +kernel
theorem dJ2_getChars_ba4f3_101 : decode cJ2_getChars_ba4f3 101 = .ok (.iload 5, 2) := by decide +kernel
theorem dJ2_getChars_ba4f3_103 : decode cJ2_getChars_ba4f3 103 = .ok (.getstatic 407, 3) := by decide +kernel
theorem dJ2_getChars_ba4f3_106 : decode cJ2_getChars_ba4f3 106 = .ok (.iload_n 0, 1) := by decide +kernel
theorem dJ2_getChars_ba4f3_107 : decode cJ2_getChars_ba4f3 107 = .ok (.ineg, 1) := by decide +kernel
theorem dJ2_getChars_ba4f3_108 : decode cJ2_getChars_ba4f3 108 = .ok (.baload, 1) := by decide +kernel
theorem dJ2_getChars_ba4f3_109 : decode cJ2_getChars_ba4f3 109 = .ok (.invokestatic 111, 3) := by decide +kernel
theorem dJ2_getChars_ba4f3_112 : decode cJ2_getChars_ba4f3 112 = .ok (.iload 6, 2) := by decide +kernel
theorem dJ2_getChars_ba4f3_114 : decode cJ2_getChars_ba4f3 114 = .ok (.ifCond .eq 14, 3) := by decide +kernel
theorem dJ2_getChars_ba4f3_117 : decode cJ2_getChars_ba4f3 117 = .ok (.aload_n 2, 1) := by decide +kernel
theorem dJ2_getChars_ba4f3_118 : decode cJ2_getChars_ba4f3 118 = .ok (.iinc 5 (-1), 3) := by decide +kernel
theorem dJ2_getChars_ba4f3_121 : decode cJ2_getChars_ba4f3 121 = .ok (.iload 5, 2) := by decide +kernel
theorem dJ2_getChars_ba4f3_123 : decode cJ2_getChars_ba4f3 123 = .ok (.bipush 45, 2) := by decide +kernel
theorem dJ2_getChars_ba4f3_125 : decode cJ2_getChars_ba4f3 125 = .ok (.invokestatic 111, 3) := by decide +kernel
theorem dJ2_getChars_ba4f3_128 : decode cJ2_getChars_ba4f3 128 = .ok (.iload 5, 2) := by decide +kernel
theorem dJ2_getChars_ba4f3_130 : decode cJ2_getChars_ba4f3 130 = .ok (.ireturn, 1) := by decide +kernel
theorem dJ2_checkIndex_2214a_0 : decode cJ2_checkIndex_2214a 0 = .ok (.iload_n 0, 1) := by decide +kernel
theorem dJ2_checkIndex_2214a_1 : decode cJ2_checkIndex_2214a 1 = .ok (.aload_n 1, 1) := by decide +kernel
theorem dJ2_checkIndex_2214a_2 : decode cJ2_checkIndex_2214a 2 = .ok (.invokestatic 48, 3) := by decide +kernel
theorem dJ2_checkIndex_2214a_5 : decode cJ2_checkIndex_2214a 5 = .ok (.invokestatic 414, 3) := by decide +kernel
theorem dJ2_checkIndex_2214a_8 : decode cJ2_checkIndex_2214a 8 = .ok (.return_, 1) := by decide +kernel
theorem dJ2_checkBoundsBeginEnd_d044e_0 : decode cJ2_checkBoundsBeginEnd_d044e 0 = .ok (.iload_n 0, 1) := by decide +kernel
theorem dJ2_checkBoundsBeginEnd_d044e_1 : decode cJ2_checkBoundsBeginEnd_d044e 1 = .ok (.iload_n 1, 1) := by decide +kernel
theorem dJ2_checkBoundsBeginEnd_d044e_2 : decode cJ2_checkBoundsBeginEnd_d044e 2 = .ok (.aload_n 2, 1) := by decide +kernel
theorem dJ2_checkBoundsBeginEnd_d044e_3 : decode cJ2_checkBoundsBeginEnd_d044e 3 = .ok (.invokestatic 48, 3) := by decide +kernel
theorem dJ2_checkBoundsBeginEnd_d044e_6 : decode cJ2_checkBoundsBeginEnd_d044e 6 = .ok (.invokestatic 241, 3) := by decide +kernel
theorem dJ2_checkBoundsBeginEnd_d044e_9 : decode cJ2_checkBoundsBeginEnd_d044e 9 = .ok (.return_, 1) := by decide +kernel
theorem dJ2_checkBoundsOffCount_d044e_0 : decode cJ2_checkBoundsOffCount_d044e 0 = .ok (.iload_n 0, 1) := by decide +kernel
theorem dJ2_checkBoundsOffCount_d044e_1 : decode cJ2_checkBoundsOffCount_d044e 1 = .ok (.iload_n 1, 1) := by decide +kernel
theorem dJ2_checkBoundsOffCount_d044e_2 : decode cJ2_checkBoundsOffCount_d044e 2 = .ok (.aload_n 2, 1) := by decide +kernel
theorem dJ2_checkBoundsOffCount_d044e_3 : decode cJ2_checkBoundsOffCount_d044e 3 = .ok (.invokestatic 48, 3) := by decide +kernel
theorem dJ2_checkBoundsOffCount_d044e_6 : decode cJ2_checkBoundsOffCount_d044e 6 = .ok (.invokestatic 419, 3) := by decide +kernel
theorem dJ2_checkBoundsOffCount_d044e_9 : decode cJ2_checkBoundsOffCount_d044e 9 = .ok (.pop, 1) := by decide +kernel
theorem dJ2_checkBoundsOffCount_d044e_10 : decode cJ2_checkBoundsOffCount_d044e 10 = .ok (.return_, 1) := by decide +kernel
theorem dJ7_copyOf_9075b_0 : decode cJ7_copyOf_9075b 0 = .ok (.iload_n 1, 1) := by decide +kernel
theorem dJ7_copyOf_9075b_1 : decode cJ7_copyOf_9075b 1 = .ok (.aload_n 0, 1) := by decide +kernel
theorem dJ7_copyOf_9075b_2 : decode cJ7_copyOf_9075b 2 = .ok (.arraylength, 1) := by decide +kernel
theorem dJ7_copyOf_9075b_3 : decode cJ7_copyOf_9075b 3 = .ok (.if_icmp .ne 11, 3) := by decide +kernel
theorem dJ7_copyOf_9075b_6 : decode cJ7_copyOf_9075b 6 = .ok (.aload_n 0, 1) := by decide +kernel
theorem dJ7_copyOf_9075b_7 : decode cJ7_copyOf_9075b 7 = .ok (.invokevirtual 310, 3) := by decide +kernel
theorem dJ7_copyOf_9075b_10 : decode cJ7_copyOf_9075b 10 = .ok (.checkcast 311, 3) := by decide +kernel
theorem dJ7_copyOf_9075b_13 : decode cJ7_copyOf_9075b 13 = .ok (.areturn, 1) := by decide +kernel
theorem dJ7_copyOf_9075b_14 : decode cJ7_copyOf_9075b 14 = .ok (.iload_n 1, 1) := by decide +kernel
theorem dJ7_copyOf_9075b_15 : decode cJ7_copyOf_9075b 15 = .ok (.newarray .byte, 2) := by decide +kernel
theorem dJ7_copyOf_9075b_17 : decode cJ7_copyOf_9075b 17 = .ok (.astore_n 2, 1) := by decide +kernel
theorem dJ7_copyOf_9075b_18 : decode cJ7_copyOf_9075b 18 = .ok (.aload_n 0, 1) := by decide +kernel
theorem dJ7_copyOf_9075b_19 : decode cJ7_copyOf_9075b 19 = .ok (.iconst 0, 1) := by decide +kernel
theorem dJ7_copyOf_9075b_20 : decode cJ7_copyOf_9075b 20 = .ok (.aload_n 2, 1) := by decide +kernel
theorem dJ7_copyOf_9075b_21 : decode cJ7_copyOf_9075b 21 = .ok (.iconst 0, 1) := by decide +kernel
theorem dJ7_copyOf_9075b_22 : decode cJ7_copyOf_9075b 22 = .ok (.aload_n 0, 1) := by decide +kernel
theorem dJ7_copyOf_9075b_23 : decode cJ7_copyOf_9075b 23 = .ok (.arraylength, 1) := by decide +kernel
theorem dJ7_copyOf_9075b_24 : decode cJ7_copyOf_9075b 24 = .ok (.iload_n 1, 1) := by decide +kernel
theorem dJ7_copyOf_9075b_25 : decode cJ7_copyOf_9075b 25 = .ok (.invokestatic 304, 3) := by decide +kernel
theorem dJ7_copyOf_9075b_28 : decode cJ7_copyOf_9075b 28 = .ok (.invokestatic 150, 3) := by decide +kernel
theorem dJ7_copyOf_9075b_31 : decode cJ7_copyOf_9075b 31 = .ok (.aload_n 2, 1) := by decide +kernel
theorem dJ7_copyOf_9075b_32 : decode cJ7_copyOf_9075b 32 = .ok (.areturn, 1) := by decide +kernel
theorem dJ7_checkLength_df160_0 : decode cJ7_checkLength_df160 0 = .ok (.iload_n 1, 1) := by decide +kernel
theorem dJ7_checkLength_df160_1 : decode cJ7_checkLength_df160 1 = .ok (.iload_n 0, 1) := by decide +kernel
theorem dJ7_checkLength_df160_2 : decode cJ7_checkLength_df160 2 = .ok (.if_icmp .ge 35, 3) := by decide +kernel
theorem dJ7_checkLength_df160_5 : decode cJ7_checkLength_df160 5 = .ok (.new 43, 3) := by decide +kernel
theorem dJ7_checkLength_df160_8 : decode cJ7_checkLength_df160 8 = .ok (.dup, 1) := by decide +kernel
theorem dJ7_checkLength_df160_9 : decode cJ7_checkLength_df160 9 = .ok (.new 45, 3) := by decide +kernel
theorem dJ7_checkLength_df160_12 : decode cJ7_checkLength_df160 12 = .ok (.dup, 1) := by decide +kernel
theorem dJ7_checkLength_df160_13 : decode cJ7_checkLength_df160 13 = .ok (.invokespecial 47, 3) := by decide +kernel
theorem dJ7_checkLength_df160_16 : decode cJ7_checkLength_df160 16 = .ok (.iload_n 0, 1) := by decide +kernel
theorem dJ7_checkLength_df160_17 : decode cJ7_checkLength_df160 17 = .ok (.invokevirtual 54, 3) := by decide +kernel
theorem dJ7_checkLength_df160_20 : decode cJ7_checkLength_df160 20 = .ok (.ldc_w 337, 3) := by decide +kernel
theorem dJ7_checkLength_df160_23 : decode cJ7_checkLength_df160 23 = .ok (.invokevirtual 50, 3) := by decide +kernel
theorem dJ7_checkLength_df160_26 : decode cJ7_checkLength_df160 26 = .ok (.iload_n 1, 1) := by decide +kernel
theorem dJ7_checkLength_df160_27 : decode cJ7_checkLength_df160 27 = .ok (.invokevirtual 54, 3) := by decide +kernel
theorem dJ7_checkLength_df160_30 : decode cJ7_checkLength_df160 30 = .ok (.invokevirtual 61, 3) := by decide +kernel
theorem dJ7_checkLength_df160_33 : decode cJ7_checkLength_df160 33 = .ok (.invokespecial 65, 3) := by decide +kernel
theorem dJ7_checkLength_df160_36 : decode cJ7_checkLength_df160 36 = .ok (.athrow, 1) := by decide +kernel
theorem dJ7_checkLength_df160_37 : decode cJ7_checkLength_df160 37 = .ok (.return_, 1) := by decide +kernel
theorem dJ7_copyOfRange_39247_0 : decode cJ7_copyOfRange_39247 0 = .ok (.iload_n 1, 1) := by decide +kernel
theorem dJ7_copyOfRange_39247_1 : decode cJ7_copyOfRange_39247 1 = .ok (.ifCond .ne 9, 3) := by decide +kernel
theorem dJ7_copyOfRange_39247_4 : decode cJ7_copyOfRange_39247 4 = .ok (.iload_n 2, 1) := by decide +kernel
theorem dJ7_copyOfRange_39247_5 : decode cJ7_copyOfRange_39247 5 = .ok (.aload_n 0, 1) := by decide +kernel
theorem dJ7_copyOfRange_39247_6 : decode cJ7_copyOfRange_39247 6 = .ok (.arraylength, 1) := by decide +kernel
theorem dJ7_copyOfRange_39247_7 : decode cJ7_copyOfRange_39247 7 = .ok (.if_icmp .eq 10, 3) := by decide +kernel
theorem dJ7_copyOfRange_39247_10 : decode cJ7_copyOfRange_39247 10 = .ok (.aload_n 0, 1) := by decide +kernel
theorem dJ7_copyOfRange_39247_11 : decode cJ7_copyOfRange_39247 11 = .ok (.iload_n 1, 1) := by decide +kernel
theorem dJ7_copyOfRange_39247_12 : decode cJ7_copyOfRange_39247 12 = .ok (.iload_n 2, 1) := by decide +kernel
theorem dJ7_copyOfRange_39247_13 : decode cJ7_copyOfRange_39247 13 = .ok (.invokestatic 339, 3) := by decide +kernel
theorem dJ7_copyOfRange_39247_16 : decode cJ7_copyOfRange_39247 16 = .ok (.areturn, 1) := by decide +kernel
theorem dJ7_copyOfRange_39247_17 : decode cJ7_copyOfRange_39247 17 = .ok (.aload_n 0, 1) := by decide +kernel
theorem dJ7_copyOfRange_39247_18 : decode cJ7_copyOfRange_39247 18 = .ok (.invokevirtual 310, 3) := by decide +kernel
theorem dJ7_copyOfRange_39247_21 : decode cJ7_copyOfRange_39247 21 = .ok (.checkcast 311, 3) := by decide +kernel
theorem dJ7_copyOfRange_39247_24 : decode cJ7_copyOfRange_39247 24 = .ok (.areturn, 1) := by decide +kernel
theorem dJ7_copyOfRangeByte_39247_0 : decode cJ7_copyOfRangeByte_39247 0 = .ok (.iload_n 1, 1) := by decide +kernel
theorem dJ7_copyOfRangeByte_39247_1 : decode cJ7_copyOfRangeByte_39247 1 = .ok (.iload_n 2, 1) := by decide +kernel
theorem dJ7_copyOfRangeByte_39247_2 : decode cJ7_copyOfRangeByte_39247 2 = .ok (.invokestatic 343, 3) := by decide +kernel
theorem dJ7_copyOfRangeByte_39247_5 : decode cJ7_copyOfRangeByte_39247 5 = .ok (.iload_n 2, 1) := by decide +kernel
theorem dJ7_copyOfRangeByte_39247_6 : decode cJ7_copyOfRangeByte_39247 6 = .ok (.iload_n 1, 1) := by decide +kernel
theorem dJ7_copyOfRangeByte_39247_7 : decode cJ7_copyOfRangeByte_39247 7 = .ok (.isub, 1) := by decide +kernel
theorem dJ7_copyOfRangeByte_39247_8 : decode cJ7_copyOfRangeByte_39247 8 = .ok (.istore_n 3, 1) := by decide +kernel
theorem dJ7_copyOfRangeByte_39247_9 : decode cJ7_copyOfRangeByte_39247 9 = .ok (.iload_n 3, 1) := by decide +kernel
theorem dJ7_copyOfRangeByte_39247_10 : decode cJ7_copyOfRangeByte_39247 10 = .ok (.newarray .byte, 2) := by decide +kernel
theorem dJ7_copyOfRangeByte_39247_12 : decode cJ7_copyOfRangeByte_39247 12 = .ok (.astore 4, 2) := by decide +kernel
theorem dJ7_copyOfRangeByte_39247_14 : decode cJ7_copyOfRangeByte_39247 14 = .ok (.aload_n 0, 1) := by decide +kernel
theorem dJ7_copyOfRangeByte_39247_15 : decode cJ7_copyOfRangeByte_39247 15 = .ok (.iload_n 1, 1) := by decide +kernel
theorem dJ7_copyOfRangeByte_39247_16 : decode cJ7_copyOfRangeByte_39247 16 = .ok (.aload 4, 2) := by decide +kernel
theorem dJ7_copyOfRangeByte_39247_18 : decode cJ7_copyOfRangeByte_39247 18 = .ok (.iconst 0, 1) := by decide +kernel
theorem dJ7_copyOfRangeByte_39247_19 : decode cJ7_copyOfRangeByte_39247 19 = .ok (.aload_n 0, 1) := by decide +kernel
theorem dJ7_copyOfRangeByte_39247_20 : decode cJ7_copyOfRangeByte_39247 20 = .ok (.arraylength, 1) := by decide +kernel
theorem dJ7_copyOfRangeByte_39247_21 : decode cJ7_copyOfRangeByte_39247 21 = .ok (.iload_n 1, 1) := by decide +kernel
theorem dJ7_copyOfRangeByte_39247_22 : decode cJ7_copyOfRangeByte_39247 22 = .ok (.isub, 1) := by decide +kernel
theorem dJ7_copyOfRangeByte_39247_23 : decode cJ7_copyOfRangeByte_39247 23 = .ok (.iload_n 3, 1) := by decide +kernel
theorem dJ7_copyOfRangeByte_39247_24 : decode cJ7_copyOfRangeByte_39247 24 = .ok (.invokestatic 304, 3) := by decide +kernel
theorem dJ7_copyOfRangeByte_39247_27 : decode cJ7_copyOfRangeByte_39247 27 = .ok (.invokestatic 150, 3) := by decide +kernel
theorem dJ7_copyOfRangeByte_39247_30 : decode cJ7_copyOfRangeByte_39247 30 = .ok (.aload 4, 2) := by decide +kernel
theorem dJ7_copyOfRangeByte_39247_32 : decode cJ7_copyOfRangeByte_39247 32 = .ok (.areturn, 1) := by decide +kernel
theorem dJ8_newLength_cabcc_0 : decode cJ8_newLength_cabcc 0 = .ok (.iload_n 0, 1) := by decide +kernel
theorem dJ8_newLength_cabcc_1 : decode cJ8_newLength_cabcc 1 = .ok (.iload_n 1, 1) := by decide +kernel
theorem dJ8_newLength_cabcc_2 : decode cJ8_newLength_cabcc 2 = .ok (.iload_n 2, 1) := by decide +kernel
theorem dJ8_newLength_cabcc_3 : decode cJ8_newLength_cabcc 3 = .ok (.invokestatic 194, 3) := by decide +kernel
theorem dJ8_newLength_cabcc_6 : decode cJ8_newLength_cabcc 6 = .ok (.iadd, 1) := by decide +kernel
theorem dJ8_newLength_cabcc_7 : decode cJ8_newLength_cabcc 7 = .ok (.istore_n 3, 1) := by decide +kernel
theorem dJ8_newLength_cabcc_8 : decode cJ8_newLength_cabcc 8 = .ok (.iconst 0, 1) := by decide +kernel
theorem dJ8_newLength_cabcc_9 : decode cJ8_newLength_cabcc 9 = .ok (.iload_n 3, 1) := by decide +kernel
theorem dJ8_newLength_cabcc_10 : decode cJ8_newLength_cabcc 10 = .ok (.if_icmp .ge 11, 3) := by decide +kernel
theorem dJ8_newLength_cabcc_13 : decode cJ8_newLength_cabcc 13 = .ok (.iload_n 3, 1) := by decide +kernel
theorem dJ8_newLength_cabcc_14 : decode cJ8_newLength_cabcc 14 = .ok (.ldc 200, 2) := by decide +kernel
theorem dJ8_newLength_cabcc_16 : decode cJ8_newLength_cabcc 16 = .ok (.if_icmp .gt 5, 3) := by decide +kernel
theorem dJ8_newLength_cabcc_19 : decode cJ8_newLength_cabcc 19 = .ok (.iload_n 3, 1) := by decide +kernel
theorem dJ8_newLength_cabcc_20 : decode cJ8_newLength_cabcc 20 = .ok (.ireturn, 1) := by decide +kernel
theorem dJ8_newLength_cabcc_21 : decode cJ8_newLength_cabcc 21 = .ok (.iload_n 0, 1) := by decide +kernel
theorem dJ8_newLength_cabcc_22 : decode cJ8_newLength_cabcc 22 = .ok (.iload_n 1, 1) := by decide +kernel
theorem dJ8_newLength_cabcc_23 : decode cJ8_newLength_cabcc 23 = .ok (.invokestatic 201, 3) := by decide +kernel
theorem dJ8_newLength_cabcc_26 : decode cJ8_newLength_cabcc 26 = .ok (.ireturn, 1) := by decide +kernel
theorem dJ8_hugeLength_7cf53_0 : decode cJ8_hugeLength_7cf53 0 = .ok (.iload_n 0, 1) := by decide +kernel
theorem dJ8_hugeLength_7cf53_1 : decode cJ8_hugeLength_7cf53 1 = .ok (.iload_n 1, 1) := by decide +kernel
theorem dJ8_hugeLength_7cf53_2 : decode cJ8_hugeLength_7cf53 2 = .ok (.iadd, 1) := by decide +kernel
theorem dJ8_hugeLength_7cf53_3 : decode cJ8_hugeLength_7cf53 3 = .ok (.istore_n 2, 1) := by decide +kernel
theorem dJ8_hugeLength_7cf53_4 : decode cJ8_hugeLength_7cf53 4 = .ok (.iload_n 2, 1) := by decide +kernel
theorem dJ8_hugeLength_7cf53_5 : decode cJ8_hugeLength_7cf53 5 = .ok (.ifCond .ge 44, 3) := by decide +kernel
theorem dJ8_hugeLength_7cf53_8 : decode cJ8_hugeLength_7cf53 8 = .ok (.new 204, 3) := by decide +kernel
theorem dJ8_hugeLength_7cf53_11 : decode cJ8_hugeLength_7cf53 11 = .ok (.dup, 1) := by decide +kernel
theorem dJ8_hugeLength_7cf53_12 : decode cJ8_hugeLength_7cf53 12 = .ok (.new 89, 3) := by decide +kernel
theorem dJ8_hugeLength_7cf53_15 : decode cJ8_hugeLength_7cf53 15 = .ok (.dup, 1) := by decide +kernel
theorem dJ8_hugeLength_7cf53_16 : decode cJ8_hugeLength_7cf53 16 = .ok (.invokespecial 91, 3) := by decide +kernel
theorem dJ8_hugeLength_7cf53_19 : decode cJ8_hugeLength_7cf53 19 = .ok (.ldc 206, 2) := by decide +kernel
theorem dJ8_hugeLength_7cf53_21 : decode cJ8_hugeLength_7cf53 21 = .ok (.invokevirtual 94, 3) := by decide +kernel
theorem dJ8_hugeLength_7cf53_24 : decode cJ8_hugeLength_7cf53 24 = .ok (.iload_n 0, 1) := by decide +kernel
theorem dJ8_hugeLength_7cf53_25 : decode cJ8_hugeLength_7cf53 25 = .ok (.invokevirtual 98, 3) := by decide +kernel
theorem dJ8_hugeLength_7cf53_28 : decode cJ8_hugeLength_7cf53 28 = .ok (.ldc 208, 2) := by decide +kernel
theorem dJ8_hugeLength_7cf53_30 : decode cJ8_hugeLength_7cf53 30 = .ok (.invokevirtual 94, 3) := by decide +kernel
theorem dJ8_hugeLength_7cf53_33 : decode cJ8_hugeLength_7cf53 33 = .ok (.iload_n 1, 1) := by decide +kernel
theorem dJ8_hugeLength_7cf53_34 : decode cJ8_hugeLength_7cf53 34 = .ok (.invokevirtual 98, 3) := by decide +kernel
theorem dJ8_hugeLength_7cf53_37 : decode cJ8_hugeLength_7cf53 37 = .ok (.ldc 210, 2) := by decide +kernel
theorem dJ8_hugeLength_7cf53_39 : decode cJ8_hugeLength_7cf53 39 = .ok (.invokevirtual 94, 3) := by decide +kernel
theorem dJ8_hugeLength_7cf53_42 : decode cJ8_hugeLength_7cf53 42 = .ok (.invokevirtual 101, 3) := by decide +kernel
theorem dJ8_hugeLength_7cf53_45 : decode cJ8_hugeLength_7cf53 45 = .ok (.invokespecial 212, 3) := by decide +kernel
theorem dJ8_hugeLength_7cf53_48 : decode cJ8_hugeLength_7cf53 48 = .ok (.athrow, 1) := by decide +kernel
theorem dJ8_hugeLength_7cf53_49 : decode cJ8_hugeLength_7cf53 49 = .ok (.iload_n 2, 1) := by decide +kernel
theorem dJ8_hugeLength_7cf53_50 : decode cJ8_hugeLength_7cf53 50 = .ok (.ldc 200, 2) := by decide +kernel
theorem dJ8_hugeLength_7cf53_52 : decode cJ8_hugeLength_7cf53 52 = .ok (.if_icmp .gt 6, 3) := by decide +kernel
theorem dJ8_hugeLength_7cf53_55 : decode cJ8_hugeLength_7cf53 55 = .ok (.ldc 200, 2) := by decide +kernel
theorem dJ8_hugeLength_7cf53_57 : decode cJ8_hugeLength_7cf53 57 = .ok (.ireturn, 1) := by decide +kernel
theorem dJ8_hugeLength_7cf53_58 : decode cJ8_hugeLength_7cf53 58 = .ok (.iload_n 2, 1) := by decide +kernel
theorem dJ8_hugeLength_7cf53_59 : decode cJ8_hugeLength_7cf53 59 = .ok (.ireturn, 1) := by decide +kernel
theorem dJ3_checkIndex_8e157_0 : decode cJ3_checkIndex_8e157 0 = .ok (.iload_n 0, 1) := by decide +kernel
theorem dJ3_checkIndex_8e157_1 : decode cJ3_checkIndex_8e157 1 = .ok (.ifCond .lt 8, 3) := by decide +kernel
theorem dJ3_checkIndex_8e157_4 : decode cJ3_checkIndex_8e157 4 = .ok (.iload_n 0, 1) := by decide +kernel
theorem dJ3_checkIndex_8e157_5 : decode cJ3_checkIndex_8e157 5 = .ok (.iload_n 1, 1) := by decide +kernel
theorem dJ3_checkIndex_8e157_6 : decode cJ3_checkIndex_8e157 6 = .ok (.if_icmp .lt 10, 3) := by decide +kernel
theorem dJ3_checkIndex_8e157_9 : decode cJ3_checkIndex_8e157 9 = .ok (.aload_n 2, 1) := by decide +kernel
theorem dJ3_checkIndex_8e157_10 : decode cJ3_checkIndex_8e157 10 = .ok (.iload_n 0, 1) := by decide +kernel
theorem dJ3_checkIndex_8e157_11 : decode cJ3_checkIndex_8e157 11 = .ok (.iload_n 1, 1) := by decide +kernel
theorem dJ3_checkIndex_8e157_12 : decode cJ3_checkIndex_8e157 12 = .ok (.invokestatic 95, 3) := by decide +kernel
theorem dJ3_checkIndex_8e157_15 : decode cJ3_checkIndex_8e157 15 = .ok (.athrow, 1) := by decide +kernel
theorem dJ3_checkIndex_8e157_16 : decode cJ3_checkIndex_8e157 16 = .ok (.iload_n 0, 1) := by decide +kernel
theorem dJ3_checkIndex_8e157_17 : decode cJ3_checkIndex_8e157 17 = .ok (.ireturn, 1) := by decide +kernel
theorem dJ3_checkFromToIndex_8c36e_0 : decode cJ3_checkFromToIndex_8c36e 0 = .ok (.iload_n 0, 1) := by decide +kernel
theorem dJ3_checkFromToIndex_8c36e_1 : decode cJ3_checkFromToIndex_8c36e 1 = .ok (.ifCond .lt 13, 3) := by decide +kernel
theorem dJ3_checkFromToIndex_8c36e_4 : decode cJ3_checkFromToIndex_8c36e 4 = .ok (.iload_n 0, 1) := by decide +kernel
theorem dJ3_checkFromToIndex_8c36e_5 : decode cJ3_checkFromToIndex_8c36e 5 = .ok (.iload_n 1, 1) := by decide +kernel
theorem dJ3_checkFromToIndex_8c36e_6 : decode cJ3_checkFromToIndex_8c36e 6 = .ok (.if_icmp .gt 8, 3) := by decide +kernel
theorem dJ3_checkFromToIndex_8c36e_9 : decode cJ3_checkFromToIndex_8c36e 9 = .ok (.iload_n 1, 1) := by decide +kernel
theorem dJ3_checkFromToIndex_8c36e_10 : decode cJ3_checkFromToIndex_8c36e 10 = .ok (.iload_n 2, 1) := by decide +kernel
theorem dJ3_checkFromToIndex_8c36e_11 : decode cJ3_checkFromToIndex_8c36e 11 = .ok (.if_icmp .le 11, 3) := by decide +kernel
theorem dJ3_checkFromToIndex_8c36e_14 : decode cJ3_checkFromToIndex_8c36e 14 = .ok (.aload_n 3, 1) := by decide +kernel
theorem dJ3_checkFromToIndex_8c36e_15 : decode cJ3_checkFromToIndex_8c36e 15 = .ok (.iload_n 0, 1) := by decide +kernel
theorem dJ3_checkFromToIndex_8c36e_16 : decode cJ3_checkFromToIndex_8c36e 16 = .ok (.iload_n 1, 1) := by decide +kernel
theorem dJ3_checkFromToIndex_8c36e_17 : decode cJ3_checkFromToIndex_8c36e 17 = .ok (.iload_n 2, 1) := by decide +kernel
theorem dJ3_checkFromToIndex_8c36e_18 : decode cJ3_checkFromToIndex_8c36e 18 = .ok (.invokestatic 99, 3) := by decide +kernel
theorem dJ3_checkFromToIndex_8c36e_21 : decode cJ3_checkFromToIndex_8c36e 21 = .ok (.athrow, 1) := by decide +kernel
theorem dJ3_checkFromToIndex_8c36e_22 : decode cJ3_checkFromToIndex_8c36e 22 = .ok (.iload_n 0, 1) := by decide +kernel
theorem dJ3_checkFromToIndex_8c36e_23 : decode cJ3_checkFromToIndex_8c36e 23 = .ok (.ireturn, 1) := by decide +kernel
theorem dJ3_checkFromIndexSize_8c36e_0 : decode cJ3_checkFromIndexSize_8c36e 0 = .ok (.iload_n 2, 1) := by decide +kernel
theorem dJ3_checkFromIndexSize_8c36e_1 : decode cJ3_checkFromIndexSize_8c36e 1 = .ok (.iload_n 0, 1) := by decide +kernel
theorem dJ3_checkFromIndexSize_8c36e_2 : decode cJ3_checkFromIndexSize_8c36e 2 = .ok (.ior, 1) := by decide +kernel
theorem dJ3_checkFromIndexSize_8c36e_3 : decode cJ3_checkFromIndexSize_8c36e 3 = .ok (.iload_n 1, 1) := by decide +kernel
theorem dJ3_checkFromIndexSize_8c36e_4 : decode cJ3_checkFromIndexSize_8c36e 4 = .ok (.ior, 1) := by decide +kernel
theorem dJ3_checkFromIndexSize_8c36e_5 : decode cJ3_checkFromIndexSize_8c36e 5 = .ok (.ifCond .lt 10, 3) := by decide +kernel
theorem dJ3_checkFromIndexSize_8c36e_8 : decode cJ3_checkFromIndexSize_8c36e 8 = .ok (.iload_n 1, 1) := by decide +kernel
theorem dJ3_checkFromIndexSize_8c36e_9 : decode cJ3_checkFromIndexSize_8c36e 9 = .ok (.iload_n 2, 1) := by decide +kernel
theorem dJ3_checkFromIndexSize_8c36e_10 : decode cJ3_checkFromIndexSize_8c36e 10 = .ok (.iload_n 0, 1) := by decide +kernel
theorem dJ3_checkFromIndexSize_8c36e_11 : decode cJ3_checkFromIndexSize_8c36e 11 = .ok (.isub, 1) := by decide +kernel
theorem dJ3_checkFromIndexSize_8c36e_12 : decode cJ3_checkFromIndexSize_8c36e 12 = .ok (.if_icmp .le 11, 3) := by decide +kernel
theorem dJ3_checkFromIndexSize_8c36e_15 : decode cJ3_checkFromIndexSize_8c36e 15 = .ok (.aload_n 3, 1) := by decide +kernel
theorem dJ3_checkFromIndexSize_8c36e_16 : decode cJ3_checkFromIndexSize_8c36e 16 = .ok (.iload_n 0, 1) := by decide +kernel
theorem dJ3_checkFromIndexSize_8c36e_17 : decode cJ3_checkFromIndexSize_8c36e 17 = .ok (.iload_n 1, 1) := by decide +kernel
theorem dJ3_checkFromIndexSize_8c36e_18 : decode cJ3_checkFromIndexSize_8c36e 18 = .ok (.iload_n 2, 1) := by decide +kernel
theorem dJ3_checkFromIndexSize_8c36e_19 : decode cJ3_checkFromIndexSize_8c36e 19 = .ok (.invokestatic 103, 3) := by decide +kernel
theorem dJ3_checkFromIndexSize_8c36e_22 : decode cJ3_checkFromIndexSize_8c36e 22 = .ok (.athrow, 1) := by decide +kernel
theorem dJ3_checkFromIndexSize_8c36e_23 : decode cJ3_checkFromIndexSize_8c36e 23 = .ok (.iload_n 0, 1) := by decide +kernel
theorem dJ3_checkFromIndexSize_8c36e_24 : decode cJ3_checkFromIndexSize_8c36e 24 = .ok (.ireturn, 1) := by decide +kernel
theorem dL_init_0 : decode cL_init 0 = .ok (.aload_n 0, 1) := by decide +kernel
theorem dL_init_1 : decode cL_init 1 = .ok (.invokespecial 1, 3) := by decide +kernel
theorem dL_init_4 : decode cL_init 4 = .ok (.aload_n 0, 1) := by decide +kernel
theorem dL_init_5 : decode cL_init 5 = .ok (.new 7, 3) := by decide +kernel
theorem dL_init_8 : decode cL_init 8 = .ok (.dup, 1) := by decide +kernel
theorem dL_init_9 : decode cL_init 9 = .ok (.invokespecial 9, 3) := by decide +kernel
theorem dL_init_12 : decode cL_init 12 = .ok (.putfield 10, 3) := by decide +kernel
theorem dL_init_15 : decode cL_init 15 = .ok (.aload_n 0, 1) := by decide +kernel
theorem dL_init_16 : decode cL_init 16 = .ok (.bipush 6, 2) := by decide +kernel
theorem dL_init_18 : decode cL_init 18 = .ok (.newarray .int, 2) := by decide +kernel
theorem dL_init_20 : decode cL_init 20 = .ok (.putfield 16, 3) := by decide +kernel
theorem dL_init_23 : decode cL_init 23 = .ok (.aload_n 0, 1) := by decide +kernel
theorem dL_init_24 : decode cL_init 24 = .ok (.iconst 3, 1) := by decide +kernel
theorem dL_init_25 : decode cL_init 25 = .ok (.newarray .int, 2) := by decide +kernel
theorem dL_init_27 : decode cL_init 27 = .ok (.putfield 20, 3) := by decide +kernel
theorem dL_init_30 : decode cL_init 30 = .ok (.aload_n 0, 1) := by decide +kernel
theorem dL_init_31 : decode cL_init 31 = .ok (.iconst 3, 1) := by decide +kernel
theorem dL_init_32 : decode cL_init 32 = .ok (.newarray .int, 2) := by decide +kernel
theorem dL_init_34 : decode cL_init 34 = .ok (.putfield 23, 3) := by decide +kernel
theorem dL_init_37 : decode cL_init 37 = .ok (.aload_n 0, 1) := by decide +kernel
theorem dL_init_38 : decode cL_init 38 = .ok (.iconst 3, 1) := by decide +kernel
theorem dL_init_39 : decode cL_init 39 = .ok (.newarray .int, 2) := by decide +kernel
theorem dL_init_41 : decode cL_init 41 = .ok (.putfield 26, 3) := by decide +kernel
theorem dL_init_44 : decode cL_init 44 = .ok (.aload_n 0, 1) := by decide +kernel
theorem dL_init_45 : decode cL_init 45 = .ok (.iconst 3, 1) := by decide +kernel
theorem dL_init_46 : decode cL_init 46 = .ok (.newarray .boolean, 2) := by decide +kernel
theorem dL_init_48 : decode cL_init 48 = .ok (.putfield 29, 3) := by decide +kernel
theorem dL_init_51 : decode cL_init 51 = .ok (.return_, 1) := by decide +kernel
theorem dL_cell_0 : decode cL_cell 0 = .ok (.ldc 33, 2) := by decide +kernel
theorem dL_cell_2 : decode cL_cell 2 = .ok (.iload_n 1, 1) := by decide +kernel
theorem dL_cell_3 : decode cL_cell 3 = .ok (.aload_n 0, 1) := by decide +kernel
theorem dL_cell_4 : decode cL_cell 4 = .ok (.arraylength, 1) := by decide +kernel
theorem dL_cell_5 : decode cL_cell 5 = .ok (.if_icmp .ge 9, 3) := by decide +kernel
theorem dL_cell_8 : decode cL_cell 8 = .ok (.aload_n 0, 1) := by decide +kernel
theorem dL_cell_9 : decode cL_cell 9 = .ok (.iload_n 1, 1) := by decide +kernel
theorem dL_cell_10 : decode cL_cell 10 = .ok (.iaload, 1) := by decide +kernel
theorem dL_cell_11 : decode cL_cell 11 = .ok (.goto 4, 3) := by decide +kernel
theorem dL_cell_14 : decode cL_cell 14 = .ok (.iconst 0, 1) := by decide +kernel
theorem dL_cell_15 : decode cL_cell 15 = .ok (.sipush 1009, 3) := by decide +kernel
theorem dL_cell_18 : decode cL_cell 18 = .ok (.iload_n 1, 1) := by decide +kernel
theorem dL_cell_19 : decode cL_cell 19 = .ok (.imul, 1) := by decide +kernel
theorem dL_cell_20 : decode cL_cell 20 = .ok (.iadd, 1) := by decide +kernel
theorem dL_cell_21 : decode cL_cell 21 = .ok (.imul, 1) := by decide +kernel
theorem dL_cell_22 : decode cL_cell 22 = .ok (.sipush 12345, 3) := by decide +kernel
theorem dL_cell_25 : decode cL_cell 25 = .ok (.iadd, 1) := by decide +kernel
theorem dL_cell_26 : decode cL_cell 26 = .ok (.istore_n 2, 1) := by decide +kernel
theorem dL_cell_27 : decode cL_cell 27 = .ok (.iload_n 2, 1) := by decide +kernel
theorem dL_cell_28 : decode cL_cell 28 = .ok (.iload_n 2, 1) := by decide +kernel
theorem dL_cell_29 : decode cL_cell 29 = .ok (.bipush 13, 2) := by decide +kernel
theorem dL_cell_31 : decode cL_cell 31 = .ok (.iushr, 1) := by decide +kernel
theorem dL_cell_32 : decode cL_cell 32 = .ok (.ixor, 1) := by decide +kernel
theorem dL_cell_33 : decode cL_cell 33 = .ok (.ldc 34, 2) := by decide +kernel
theorem dL_cell_35 : decode cL_cell 35 = .ok (.imul, 1) := by decide +kernel
theorem dL_cell_36 : decode cL_cell 36 = .ok (.istore_n 2, 1) := by decide +kernel
theorem dL_cell_37 : decode cL_cell 37 = .ok (.iload_n 2, 1) := by decide +kernel
theorem dL_cell_38 : decode cL_cell 38 = .ok (.iload_n 2, 1) := by decide +kernel
theorem dL_cell_39 : decode cL_cell 39 = .ok (.bipush 16, 2) := by decide +kernel
theorem dL_cell_41 : decode cL_cell 41 = .ok (.iushr, 1) := by decide +kernel
theorem dL_cell_42 : decode cL_cell 42 = .ok (.ixor, 1) := by decide +kernel
theorem dL_cell_43 : decode cL_cell 43 = .ok (.ireturn, 1) := by decide +kernel
theorem dL_pick_0 : decode cL_pick 0 = .ok (.aload_n 0, 1) := by decide +kernel
theorem dL_pick_1 : decode cL_pick 1 = .ok (.iload_n 1, 1) := by decide +kernel
theorem dL_pick_2 : decode cL_pick 2 = .ok (.invokestatic 35, 3) := by decide +kernel
theorem dL_pick_5 : decode cL_pick 5 = .ok (.bipush 8, 2) := by decide +kernel
theorem dL_pick_7 : decode cL_pick 7 = .ok (.iushr, 1) := by decide +kernel
theorem dL_pick_8 : decode cL_pick 8 = .ok (.iload_n 2, 1) := by decide +kernel
theorem dL_pick_9 : decode cL_pick 9 = .ok (.irem, 1) := by decide +kernel
theorem dL_pick_10 : decode cL_pick 10 = .ok (.ireturn, 1) := by decide +kernel
theorem dL_told_0 : decode cL_told 0 = .ok (.iload_n 0, 1) := by decide +kernel
theorem dL_told_1 : decode cL_told 1 = .ok (.ifCond .eq 7, 3) := by decide +kernel
theorem dL_told_4 : decode cL_told 4 = .ok (.iconst 1, 1) := by decide +kernel
theorem dL_told_5 : decode cL_told 5 = .ok (.goto 4, 3) := by decide +kernel
theorem dL_told_8 : decode cL_told 8 = .ok (.iconst 0, 1) := by decide +kernel
theorem dL_told_9 : decode cL_told 9 = .ok (.ireturn, 1) := by decide +kernel
theorem dL_done_0 : decode cL_done 0 = .ok (.iload_n 1, 1) := by decide +kernel
theorem dL_done_1 : decode cL_done 1 = .ok (.tableswitch 267 0 17 #[87, 98, 117, 124, 131, 138, 147, 154, 170, 176, 182, 191, 205, 215, 227, 246, 255, 261], 87) := by decide +kernel
theorem dL_done_88 : decode cL_done 88 = .ok (.aload_n 0, 1) := by decide +kernel
theorem dL_done_89 : decode cL_done 89 = .ok (.iload_n 2, 1) := by decide +kernel
theorem dL_done_90 : decode cL_done 90 = .ok (.iload_n 3, 1) := by decide +kernel
theorem dL_done_91 : decode cL_done 91 = .ok (.iload 4, 2) := by decide +kernel
theorem dL_done_93 : decode cL_done 93 = .ok (.iload 5, 2) := by decide +kernel
theorem dL_done_95 : decode cL_done 95 = .ok (.invokevirtual 39, 3) := by decide +kernel
theorem dL_done_98 : decode cL_done 98 = .ok (.ireturn, 1) := by decide +kernel
theorem dL_done_99 : decode cL_done 99 = .ok (.aload_n 0, 1) := by decide +kernel
theorem dL_done_100 : decode cL_done 100 = .ok (.iload_n 2, 1) := by decide +kernel
theorem dL_done_101 : decode cL_done 101 = .ok (.iload_n 3, 1) := by decide +kernel
theorem dL_done_102 : decode cL_done 102 = .ok (.iconst 1, 1) := by decide +kernel
theorem dL_done_103 : decode cL_done 103 = .ok (.if_icmp .ne 7, 3) := by decide +kernel
theorem dL_done_106 : decode cL_done 106 = .ok (.iconst 1, 1) := by decide +kernel
theorem dL_done_107 : decode cL_done 107 = .ok (.goto 4, 3) := by decide +kernel
theorem dL_done_110 : decode cL_done 110 = .ok (.iconst 0, 1) := by decide +kernel
theorem dL_done_111 : decode cL_done 111 = .ok (.invokevirtual 43, 3) := by decide +kernel
theorem dL_done_114 : decode cL_done 114 = .ok (.invokestatic 47, 3) := by decide +kernel
theorem dL_done_117 : decode cL_done 117 = .ok (.ireturn, 1) := by decide +kernel
theorem dL_done_118 : decode cL_done 118 = .ok (.aload_n 0, 1) := by decide +kernel
theorem dL_done_119 : decode cL_done 119 = .ok (.iload_n 2, 1) := by decide +kernel
theorem dL_done_120 : decode cL_done 120 = .ok (.iload_n 3, 1) := by decide +kernel
theorem dL_done_121 : decode cL_done 121 = .ok (.invokevirtual 51, 3) := by decide +kernel
theorem dL_done_124 : decode cL_done 124 = .ok (.ireturn, 1) := by decide +kernel
theorem dL_done_125 : decode cL_done 125 = .ok (.aload_n 0, 1) := by decide +kernel
theorem dL_done_126 : decode cL_done 126 = .ok (.iload_n 2, 1) := by decide +kernel
theorem dL_done_127 : decode cL_done 127 = .ok (.iload_n 3, 1) := by decide +kernel
theorem dL_done_128 : decode cL_done 128 = .ok (.invokevirtual 55, 3) := by decide +kernel
theorem dL_done_131 : decode cL_done 131 = .ok (.ireturn, 1) := by decide +kernel
theorem dL_done_132 : decode cL_done 132 = .ok (.aload_n 0, 1) := by decide +kernel
theorem dL_done_133 : decode cL_done 133 = .ok (.iload_n 2, 1) := by decide +kernel
theorem dL_done_134 : decode cL_done 134 = .ok (.iload_n 3, 1) := by decide +kernel
theorem dL_done_135 : decode cL_done 135 = .ok (.invokevirtual 58, 3) := by decide +kernel
theorem dL_done_138 : decode cL_done 138 = .ok (.ireturn, 1) := by decide +kernel
theorem dL_done_139 : decode cL_done 139 = .ok (.aload_n 0, 1) := by decide +kernel
theorem dL_done_140 : decode cL_done 140 = .ok (.iload_n 2, 1) := by decide +kernel
theorem dL_done_141 : decode cL_done 141 = .ok (.iload_n 3, 1) := by decide +kernel
theorem dL_done_142 : decode cL_done 142 = .ok (.iload 4, 2) := by decide +kernel
theorem dL_done_144 : decode cL_done 144 = .ok (.invokevirtual 61, 3) := by decide +kernel
theorem dL_done_147 : decode cL_done 147 = .ok (.ireturn, 1) := by decide +kernel
theorem dL_done_148 : decode cL_done 148 = .ok (.aload_n 0, 1) := by decide +kernel
theorem dL_done_149 : decode cL_done 149 = .ok (.iload_n 2, 1) := by decide +kernel
theorem dL_done_150 : decode cL_done 150 = .ok (.iload_n 3, 1) := by decide +kernel
theorem dL_done_151 : decode cL_done 151 = .ok (.invokevirtual 65, 3) := by decide +kernel
theorem dL_done_154 : decode cL_done 154 = .ok (.ireturn, 1) := by decide +kernel
theorem dL_done_155 : decode cL_done 155 = .ok (.aload_n 0, 1) := by decide +kernel
theorem dL_done_156 : decode cL_done 156 = .ok (.iload_n 2, 1) := by decide +kernel
theorem dL_done_157 : decode cL_done 157 = .ok (.iload_n 3, 1) := by decide +kernel
theorem dL_done_158 : decode cL_done 158 = .ok (.iconst 1, 1) := by decide +kernel
theorem dL_done_159 : decode cL_done 159 = .ok (.if_icmp .ne 7, 3) := by decide +kernel
theorem dL_done_162 : decode cL_done 162 = .ok (.iconst 1, 1) := by decide +kernel
theorem dL_done_163 : decode cL_done 163 = .ok (.goto 4, 3) := by decide +kernel
theorem dL_done_166 : decode cL_done 166 = .ok (.iconst 0, 1) := by decide +kernel
theorem dL_done_167 : decode cL_done 167 = .ok (.invokevirtual 68, 3) := by decide +kernel
theorem dL_done_170 : decode cL_done 170 = .ok (.ireturn, 1) := by decide +kernel
theorem dL_done_171 : decode cL_done 171 = .ok (.aload_n 0, 1) := by decide +kernel
theorem dL_done_172 : decode cL_done 172 = .ok (.iload_n 2, 1) := by decide +kernel
theorem dL_done_173 : decode cL_done 173 = .ok (.invokevirtual 72, 3) := by decide +kernel
theorem dL_done_176 : decode cL_done 176 = .ok (.ireturn, 1) := by decide +kernel
theorem dL_done_177 : decode cL_done 177 = .ok (.aload_n 0, 1) := by decide +kernel
theorem dL_done_178 : decode cL_done 178 = .ok (.iload_n 2, 1) := by decide +kernel
theorem dL_done_179 : decode cL_done 179 = .ok (.invokevirtual 76, 3) := by decide +kernel
theorem dL_done_182 : decode cL_done 182 = .ok (.ireturn, 1) := by decide +kernel
theorem dL_done_183 : decode cL_done 183 = .ok (.aload_n 0, 1) := by decide +kernel
theorem dL_done_184 : decode cL_done 184 = .ok (.iload_n 2, 1) := by decide +kernel
theorem dL_done_185 : decode cL_done 185 = .ok (.iload_n 3, 1) := by decide +kernel
theorem dL_done_186 : decode cL_done 186 = .ok (.iload 4, 2) := by decide +kernel
theorem dL_done_188 : decode cL_done 188 = .ok (.invokevirtual 79, 3) := by decide +kernel
theorem dL_done_191 : decode cL_done 191 = .ok (.ireturn, 1) := by decide +kernel
theorem dL_done_192 : decode cL_done 192 = .ok (.aload_n 0, 1) := by decide +kernel
theorem dL_done_193 : decode cL_done 193 = .ok (.iload_n 2, 1) := by decide +kernel
theorem dL_done_194 : decode cL_done 194 = .ok (.i2c, 1) := by decide +kernel
theorem dL_done_195 : decode cL_done 195 = .ok (.iload_n 3, 1) := by decide +kernel
theorem dL_done_196 : decode cL_done 196 = .ok (.iload 4, 2) := by decide +kernel
theorem dL_done_198 : decode cL_done 198 = .ok (.iload 5, 2) := by decide +kernel
theorem dL_done_200 : decode cL_done 200 = .ok (.iload 6, 2) := by decide +kernel
theorem dL_done_202 : decode cL_done 202 = .ok (.invokevirtual 82, 3) := by decide +kernel
theorem dL_done_205 : decode cL_done 205 = .ok (.ireturn, 1) := by decide +kernel
theorem dL_done_206 : decode cL_done 206 = .ok (.aload_n 0, 1) := by decide +kernel
theorem dL_done_207 : decode cL_done 207 = .ok (.iload_n 2, 1) := by decide +kernel
theorem dL_done_208 : decode cL_done 208 = .ok (.iload_n 3, 1) := by decide +kernel
theorem dL_done_209 : decode cL_done 209 = .ok (.invokevirtual 86, 3) := by decide +kernel
theorem dL_done_212 : decode cL_done 212 = .ok (.invokestatic 47, 3) := by decide +kernel
theorem dL_done_215 : decode cL_done 215 = .ok (.ireturn, 1) := by decide +kernel
theorem dL_done_216 : decode cL_done 216 = .ok (.aload_n 0, 1) := by decide +kernel
theorem dL_done_217 : decode cL_done 217 = .ok (.iload_n 2, 1) := by decide +kernel
theorem dL_done_218 : decode cL_done 218 = .ok (.iload_n 3, 1) := by decide +kernel
theorem dL_done_219 : decode cL_done 219 = .ok (.iload 4, 2) := by decide +kernel
theorem dL_done_221 : decode cL_done 221 = .ok (.invokevirtual 90, 3) := by decide +kernel
theorem dL_done_224 : decode cL_done 224 = .ok (.invokestatic 47, 3) := by decide +kernel
theorem dL_done_227 : decode cL_done 227 = .ok (.ireturn, 1) := by decide +kernel
theorem dL_done_228 : decode cL_done 228 = .ok (.aload_n 0, 1) := by decide +kernel
theorem dL_done_229 : decode cL_done 229 = .ok (.iload_n 2, 1) := by decide +kernel
theorem dL_done_230 : decode cL_done 230 = .ok (.iload_n 3, 1) := by decide +kernel
theorem dL_done_231 : decode cL_done 231 = .ok (.iconst 1, 1) := by decide +kernel
theorem dL_done_232 : decode cL_done 232 = .ok (.if_icmp .ne 7, 3) := by decide +kernel
theorem dL_done_235 : decode cL_done 235 = .ok (.iconst 1, 1) := by decide +kernel
theorem dL_done_236 : decode cL_done 236 = .ok (.goto 4, 3) := by decide +kernel
theorem dL_done_239 : decode cL_done 239 = .ok (.iconst 0, 1) := by decide +kernel
theorem dL_done_240 : decode cL_done 240 = .ok (.invokevirtual 94, 3) := by decide +kernel
theorem dL_done_243 : decode cL_done 243 = .ok (.invokestatic 47, 3) := by decide +kernel
theorem dL_done_246 : decode cL_done 246 = .ok (.ireturn, 1) := by decide +kernel
theorem dL_done_247 : decode cL_done 247 = .ok (.aload_n 0, 1) := by decide +kernel
theorem dL_done_248 : decode cL_done 248 = .ok (.iload_n 2, 1) := by decide +kernel
theorem dL_done_249 : decode cL_done 249 = .ok (.iload_n 3, 1) := by decide +kernel
theorem dL_done_250 : decode cL_done 250 = .ok (.iload 4, 2) := by decide +kernel
theorem dL_done_252 : decode cL_done 252 = .ok (.invokevirtual 97, 3) := by decide +kernel
theorem dL_done_255 : decode cL_done 255 = .ok (.ireturn, 1) := by decide +kernel
theorem dL_done_256 : decode cL_done 256 = .ok (.aload_n 0, 1) := by decide +kernel
theorem dL_done_257 : decode cL_done 257 = .ok (.iload_n 2, 1) := by decide +kernel
theorem dL_done_258 : decode cL_done 258 = .ok (.invokevirtual 100, 3) := by decide +kernel
theorem dL_done_261 : decode cL_done 261 = .ok (.ireturn, 1) := by decide +kernel
theorem dL_done_262 : decode cL_done 262 = .ok (.aload_n 0, 1) := by decide +kernel
theorem dL_done_263 : decode cL_done 263 = .ok (.iload_n 2, 1) := by decide +kernel
theorem dL_done_264 : decode cL_done 264 = .ok (.invokevirtual 103, 3) := by decide +kernel
theorem dL_done_267 : decode cL_done 267 = .ok (.ireturn, 1) := by decide +kernel
theorem dL_done_268 : decode cL_done 268 = .ok (.aload_n 0, 1) := by decide +kernel
theorem dL_done_269 : decode cL_done 269 = .ok (.iload_n 2, 1) := by decide +kernel
theorem dL_done_270 : decode cL_done 270 = .ok (.iload_n 3, 1) := by decide +kernel
theorem dL_done_271 : decode cL_done 271 = .ok (.invokevirtual 106, 3) := by decide +kernel
theorem dL_done_274 : decode cL_done 274 = .ok (.ireturn, 1) := by decide +kernel
theorem dL_asked_0 : decode cL_asked 0 = .ok (.iload_n 1, 1) := by decide +kernel
theorem dL_asked_1 : decode cL_asked 1 = .ok (.tableswitch 104 20 28 #[51, 57, 63, 69, 75, 84, 89, 94, 99], 51) := by decide +kernel
theorem dL_asked_52 : decode cL_asked 52 = .ok (.aload_n 0, 1) := by decide +kernel
theorem dL_asked_53 : decode cL_asked 53 = .ok (.iload_n 2, 1) := by decide +kernel
theorem dL_asked_54 : decode cL_asked 54 = .ok (.invokevirtual 109, 3) := by decide +kernel
theorem dL_asked_57 : decode cL_asked 57 = .ok (.ireturn, 1) := by decide +kernel
theorem dL_asked_58 : decode cL_asked 58 = .ok (.aload_n 0, 1) := by decide +kernel
theorem dL_asked_59 : decode cL_asked 59 = .ok (.iload_n 2, 1) := by decide +kernel
theorem dL_asked_60 : decode cL_asked 60 = .ok (.invokevirtual 112, 3) := by decide +kernel
theorem dL_asked_63 : decode cL_asked 63 = .ok (.ireturn, 1) := by decide +kernel
theorem dL_asked_64 : decode cL_asked 64 = .ok (.aload_n 0, 1) := by decide +kernel
theorem dL_asked_65 : decode cL_asked 65 = .ok (.iload_n 2, 1) := by decide +kernel
theorem dL_asked_66 : decode cL_asked 66 = .ok (.invokevirtual 116, 3) := by decide +kernel
theorem dL_asked_69 : decode cL_asked 69 = .ok (.ireturn, 1) := by decide +kernel
theorem dL_asked_70 : decode cL_asked 70 = .ok (.aload_n 0, 1) := by decide +kernel
theorem dL_asked_71 : decode cL_asked 71 = .ok (.iload_n 2, 1) := by decide +kernel
theorem dL_asked_72 : decode cL_asked 72 = .ok (.invokevirtual 119, 3) := by decide +kernel
theorem dL_asked_75 : decode cL_asked 75 = .ok (.ireturn, 1) := by decide +kernel
theorem dL_asked_76 : decode cL_asked 76 = .ok (.aload_n 0, 1) := by decide +kernel
theorem dL_asked_77 : decode cL_asked 77 = .ok (.iload_n 2, 1) := by decide +kernel
theorem dL_asked_78 : decode cL_asked 78 = .ok (.invokevirtual 122, 3) := by decide +kernel
theorem dL_asked_81 : decode cL_asked 81 = .ok (.invokestatic 47, 3) := by decide +kernel
theorem dL_asked_84 : decode cL_asked 84 = .ok (.ireturn, 1) := by decide +kernel
theorem dL_asked_85 : decode cL_asked 85 = .ok (.aload_n 0, 1) := by decide +kernel
theorem dL_asked_86 : decode cL_asked 86 = .ok (.invokevirtual 126, 3) := by decide +kernel
theorem dL_asked_89 : decode cL_asked 89 = .ok (.ireturn, 1) := by decide +kernel
theorem dL_asked_90 : decode cL_asked 90 = .ok (.aload_n 0, 1) := by decide +kernel
theorem dL_asked_91 : decode cL_asked 91 = .ok (.invokevirtual 130, 3) := by decide +kernel
theorem dL_asked_94 : decode cL_asked 94 = .ok (.ireturn, 1) := by decide +kernel
theorem dL_asked_95 : decode cL_asked 95 = .ok (.aload_n 0, 1) := by decide +kernel
theorem dL_asked_96 : decode cL_asked 96 = .ok (.invokevirtual 133, 3) := by decide +kernel
theorem dL_asked_99 : decode cL_asked 99 = .ok (.ireturn, 1) := by decide +kernel
theorem dL_asked_100 : decode cL_asked 100 = .ok (.aload_n 0, 1) := by decide +kernel
theorem dL_asked_101 : decode cL_asked 101 = .ok (.invokevirtual 137, 3) := by decide +kernel
theorem dL_asked_104 : decode cL_asked 104 = .ok (.ireturn, 1) := by decide +kernel
theorem dL_asked_105 : decode cL_asked 105 = .ok (.aload_n 0, 1) := by decide +kernel
theorem dL_asked_106 : decode cL_asked 106 = .ok (.iload_n 2, 1) := by decide +kernel
theorem dL_asked_107 : decode cL_asked 107 = .ok (.invokevirtual 140, 3) := by decide +kernel
theorem dL_asked_110 : decode cL_asked 110 = .ok (.ireturn, 1) := by decide +kernel
theorem dL_deed_0 : decode cL_deed 0 = .ok (.iload_n 1, 1) := by decide +kernel
theorem dL_deed_1 : decode cL_deed 1 = .ok (.bipush 20, 2) := by decide +kernel
theorem dL_deed_3 : decode cL_deed 3 = .ok (.if_icmp .ge 19, 3) := by decide +kernel
theorem dL_deed_6 : decode cL_deed 6 = .ok (.aload_n 0, 1) := by decide +kernel
theorem dL_deed_7 : decode cL_deed 7 = .ok (.iload_n 1, 1) := by decide +kernel
theorem dL_deed_8 : decode cL_deed 8 = .ok (.iload_n 2, 1) := by decide +kernel
theorem dL_deed_9 : decode cL_deed 9 = .ok (.iload_n 3, 1) := by decide +kernel
theorem dL_deed_10 : decode cL_deed 10 = .ok (.iload 4, 2) := by decide +kernel
theorem dL_deed_12 : decode cL_deed 12 = .ok (.iload 5, 2) := by decide +kernel
theorem dL_deed_14 : decode cL_deed 14 = .ok (.iload 6, 2) := by decide +kernel
theorem dL_deed_16 : decode cL_deed 16 = .ok (.invokestatic 143, 3) := by decide +kernel
theorem dL_deed_19 : decode cL_deed 19 = .ok (.goto 9, 3) := by decide +kernel
theorem dL_deed_22 : decode cL_deed 22 = .ok (.aload_n 0, 1) := by decide +kernel
theorem dL_deed_23 : decode cL_deed 23 = .ok (.iload_n 1, 1) := by decide +kernel
theorem dL_deed_24 : decode cL_deed 24 = .ok (.iload_n 2, 1) := by decide +kernel
theorem dL_deed_25 : decode cL_deed 25 = .ok (.invokestatic 147, 3) := by decide +kernel
theorem dL_deed_28 : decode cL_deed 28 = .ok (.ireturn, 1) := by decide +kernel
theorem dL_deed_29 : decode cL_deed 29 = .ok (.astore 7, 2) := by decide +kernel
theorem dL_deed_31 : decode cL_deed 31 = .ok (.sipush (-20001), 3) := by decide +kernel
theorem dL_deed_34 : decode cL_deed 34 = .ok (.ireturn, 1) := by decide +kernel
theorem dL_deed_35 : decode cL_deed 35 = .ok (.astore 7, 2) := by decide +kernel
theorem dL_deed_37 : decode cL_deed 37 = .ok (.sipush (-20002), 3) := by decide +kernel
theorem dL_deed_40 : decode cL_deed 40 = .ok (.ireturn, 1) := by decide +kernel
theorem dL_deed_41 : decode cL_deed 41 = .ok (.astore 7, 2) := by decide +kernel
theorem dL_deed_43 : decode cL_deed 43 = .ok (.sipush (-20004), 3) := by decide +kernel
theorem dL_deed_46 : decode cL_deed 46 = .ok (.ireturn, 1) := by decide +kernel
theorem dL_deed_47 : decode cL_deed 47 = .ok (.astore 7, 2) := by decide +kernel
theorem dL_deed_49 : decode cL_deed 49 = .ok (.sipush (-20005), 3) := by decide +kernel
theorem dL_deed_52 : decode cL_deed 52 = .ok (.ireturn, 1) := by decide +kernel
theorem dL_deed_53 : decode cL_deed 53 = .ok (.astore 7, 2) := by decide +kernel
theorem dL_deed_55 : decode cL_deed 55 = .ok (.sipush (-20003), 3) := by decide +kernel
theorem dL_deed_58 : decode cL_deed 58 = .ok (.ireturn, 1) := by decide +kernel
theorem dL_ask_0 : decode cL_ask 0 = .ok (.aload_n 0, 1) := by decide +kernel
theorem dL_ask_1 : decode cL_ask 1 = .ok (.iload_n 1, 1) := by decide +kernel
theorem dL_ask_2 : decode cL_ask 2 = .ok (.iload_n 2, 1) := by decide +kernel
theorem dL_ask_3 : decode cL_ask 3 = .ok (.iload_n 3, 1) := by decide +kernel
theorem dL_ask_4 : decode cL_ask 4 = .ok (.iconst 0, 1) := by decide +kernel
theorem dL_ask_5 : decode cL_ask 5 = .ok (.iconst 0, 1) := by decide +kernel
theorem dL_ask_6 : decode cL_ask 6 = .ok (.iconst 0, 1) := by decide +kernel
theorem dL_ask_7 : decode cL_ask 7 = .ok (.invokestatic 161, 3) := by decide +kernel
theorem dL_ask_10 : decode cL_ask 10 = .ok (.ireturn, 1) := by decide +kernel
theorem dL_log_0 : decode cL_log 0 = .ok (.new 164, 3) := by decide +kernel
theorem dL_log_3 : decode cL_log 3 = .ok (.dup, 1) := by decide +kernel
theorem dL_log_4 : decode cL_log 4 = .ok (.invokespecial 166, 3) := by decide +kernel
theorem dL_log_7 : decode cL_log 7 = .ok (.astore_n 1, 1) := by decide +kernel
theorem dL_log_8 : decode cL_log 8 = .ok (.iconst 0, 1) := by decide +kernel
theorem dL_log_9 : decode cL_log 9 = .ok (.istore_n 2, 1) := by decide +kernel
theorem dL_log_10 : decode cL_log 10 = .ok (.iload_n 2, 1) := by decide +kernel
theorem dL_log_11 : decode cL_log 11 = .ok (.aload_n 0, 1) := by decide +kernel
theorem dL_log_12 : decode cL_log 12 = .ok (.invokevirtual 167, 3) := by decide +kernel
theorem dL_log_15 : decode cL_log 15 = .ok (.if_icmp .ge 23, 3) := by decide +kernel
theorem dL_log_18 : decode cL_log 18 = .ok (.aload_n 1, 1) := by decide +kernel
theorem dL_log_19 : decode cL_log 19 = .ok (.aload_n 0, 1) := by decide +kernel
theorem dL_log_20 : decode cL_log 20 = .ok (.bipush 29, 2) := by decide +kernel
theorem dL_log_22 : decode cL_log 22 = .ok (.iload_n 2, 1) := by decide +kernel
theorem dL_log_23 : decode cL_log 23 = .ok (.iconst 0, 1) := by decide +kernel
theorem dL_log_24 : decode cL_log 24 = .ok (.invokestatic 170, 3) := by decide +kernel
theorem dL_log_27 : decode cL_log 27 = .ok (.i2c, 1) := by decide +kernel
theorem dL_log_28 : decode cL_log 28 = .ok (.invokevirtual 174, 3) := by decide +kernel
theorem dL_log_31 : decode cL_log 31 = .ok (.pop, 1) := by decide +kernel
theorem dL_log_32 : decode cL_log 32 = .ok (.iinc 2 1, 3) := by decide +kernel
theorem dL_log_35 : decode cL_log 35 = .ok (.goto (-25), 3) := by decide +kernel
theorem dL_log_38 : decode cL_log 38 = .ok (.aload_n 1, 1) := by decide +kernel
theorem dL_log_39 : decode cL_log 39 = .ok (.invokevirtual 178, 3) := by decide +kernel
theorem dL_log_42 : decode cL_log 42 = .ok (.areturn, 1) := by decide +kernel
theorem dL_build_0 : decode cL_build 0 = .ok (.iconst 0, 1) := by decide +kernel
theorem dL_build_1 : decode cL_build 1 = .ok (.istore_n 2, 1) := by decide +kernel
theorem dL_build_2 : decode cL_build 2 = .ok (.iload_n 2, 1) := by decide +kernel
theorem dL_build_3 : decode cL_build 3 = .ok (.iconst 3, 1) := by decide +kernel
theorem dL_build_4 : decode cL_build 4 = .ok (.if_icmp .ge 83, 3) := by decide +kernel
theorem dL_build_7 : decode cL_build 7 = .ok (.aload_n 0, 1) := by decide +kernel
theorem dL_build_8 : decode cL_build 8 = .ok (.getfield 20, 3) := by decide +kernel
theorem dL_build_11 : decode cL_build 11 = .ok (.iload_n 2, 1) := by decide +kernel
theorem dL_build_12 : decode cL_build 12 = .ok (.aload_n 1, 1) := by decide +kernel
theorem dL_build_13 : decode cL_build 13 = .ok (.iload_n 2, 1) := by decide +kernel
theorem dL_build_14 : decode cL_build 14 = .ok (.sipush 400, 3) := by decide +kernel
theorem dL_build_17 : decode cL_build 17 = .ok (.invokestatic 182, 3) := by decide +kernel
theorem dL_build_20 : decode cL_build 20 = .ok (.iastore, 1) := by decide +kernel
theorem dL_build_21 : decode cL_build 21 = .ok (.aload_n 0, 1) := by decide +kernel
theorem dL_build_22 : decode cL_build 22 = .ok (.getfield 23, 3) := by decide +kernel
theorem dL_build_25 : decode cL_build 25 = .ok (.iload_n 2, 1) := by decide +kernel
theorem dL_build_26 : decode cL_build 26 = .ok (.aload_n 1, 1) := by decide +kernel
theorem dL_build_27 : decode cL_build 27 = .ok (.iconst 3, 1) := by decide +kernel
theorem dL_build_28 : decode cL_build 28 = .ok (.iload_n 2, 1) := by decide +kernel
theorem dL_build_29 : decode cL_build 29 = .ok (.iadd, 1) := by decide +kernel
theorem dL_build_30 : decode cL_build 30 = .ok (.bipush 30, 2) := by decide +kernel
theorem dL_build_32 : decode cL_build 32 = .ok (.invokestatic 182, 3) := by decide +kernel
theorem dL_build_35 : decode cL_build 35 = .ok (.iastore, 1) := by decide +kernel
theorem dL_build_36 : decode cL_build 36 = .ok (.aload_n 0, 1) := by decide +kernel
theorem dL_build_37 : decode cL_build 37 = .ok (.getfield 26, 3) := by decide +kernel
theorem dL_build_40 : decode cL_build 40 = .ok (.iload_n 2, 1) := by decide +kernel
theorem dL_build_41 : decode cL_build 41 = .ok (.aload_n 1, 1) := by decide +kernel
theorem dL_build_42 : decode cL_build 42 = .ok (.bipush 6, 2) := by decide +kernel
theorem dL_build_44 : decode cL_build 44 = .ok (.iload_n 2, 1) := by decide +kernel
theorem dL_build_45 : decode cL_build 45 = .ok (.iadd, 1) := by decide +kernel
theorem dL_build_46 : decode cL_build 46 = .ok (.bipush 40, 2) := by decide +kernel
theorem dL_build_48 : decode cL_build 48 = .ok (.invokestatic 182, 3) := by decide +kernel
theorem dL_build_51 : decode cL_build 51 = .ok (.iastore, 1) := by decide +kernel
theorem dL_build_52 : decode cL_build 52 = .ok (.aload_n 0, 1) := by decide +kernel
theorem dL_build_53 : decode cL_build 53 = .ok (.getfield 10, 3) := by decide +kernel
theorem dL_build_56 : decode cL_build 56 = .ok (.iconst 0, 1) := by decide +kernel
theorem dL_build_57 : decode cL_build 57 = .ok (.iload_n 2, 1) := by decide +kernel
theorem dL_build_58 : decode cL_build 58 = .ok (.aload_n 0, 1) := by decide +kernel
theorem dL_build_59 : decode cL_build 59 = .ok (.getfield 20, 3) := by decide +kernel
theorem dL_build_62 : decode cL_build 62 = .ok (.iload_n 2, 1) := by decide +kernel
theorem dL_build_63 : decode cL_build 63 = .ok (.iaload, 1) := by decide +kernel
theorem dL_build_64 : decode cL_build 64 = .ok (.aload_n 0, 1) := by decide +kernel
theorem dL_build_65 : decode cL_build 65 = .ok (.getfield 23, 3) := by decide +kernel
theorem dL_build_68 : decode cL_build 68 = .ok (.iload_n 2, 1) := by decide +kernel
theorem dL_build_69 : decode cL_build 69 = .ok (.iaload, 1) := by decide +kernel
theorem dL_build_70 : decode cL_build 70 = .ok (.aload_n 0, 1) := by decide +kernel
theorem dL_build_71 : decode cL_build 71 = .ok (.getfield 26, 3) := by decide +kernel
theorem dL_build_74 : decode cL_build 74 = .ok (.iload_n 2, 1) := by decide +kernel
theorem dL_build_75 : decode cL_build 75 = .ok (.iaload, 1) := by decide +kernel
theorem dL_build_76 : decode cL_build 76 = .ok (.iconst 0, 1) := by decide +kernel
theorem dL_build_77 : decode cL_build 77 = .ok (.invokestatic 161, 3) := by decide +kernel
theorem dL_build_80 : decode cL_build 80 = .ok (.pop, 1) := by decide +kernel
theorem dL_build_81 : decode cL_build 81 = .ok (.iinc 2 1, 3) := by decide +kernel
theorem dL_build_84 : decode cL_build 84 = .ok (.goto (-82), 3) := by decide +kernel
theorem dL_build_87 : decode cL_build 87 = .ok (.iconst 0, 1) := by decide +kernel
theorem dL_build_88 : decode cL_build 88 = .ok (.istore_n 2, 1) := by decide +kernel
theorem dL_build_89 : decode cL_build 89 = .ok (.iload_n 2, 1) := by decide +kernel
theorem dL_build_90 : decode cL_build 90 = .ok (.iconst 5, 1) := by decide +kernel
theorem dL_build_91 : decode cL_build 91 = .ok (.if_icmp .ge 77, 3) := by decide +kernel
theorem dL_build_94 : decode cL_build 94 = .ok (.aload_n 0, 1) := by decide +kernel
theorem dL_build_95 : decode cL_build 95 = .ok (.getfield 10, 3) := by decide +kernel
theorem dL_build_98 : decode cL_build 98 = .ok (.iconst 3, 1) := by decide +kernel
theorem dL_build_99 : decode cL_build 99 = .ok (.iconst (-1), 1) := by decide +kernel
theorem dL_build_100 : decode cL_build 100 = .ok (.aload_n 1, 1) := by decide +kernel
theorem dL_build_101 : decode cL_build 101 = .ok (.bipush 9, 2) := by decide +kernel
theorem dL_build_103 : decode cL_build 103 = .ok (.iload_n 2, 1) := by decide +kernel
theorem dL_build_104 : decode cL_build 104 = .ok (.iadd, 1) := by decide +kernel
theorem dL_build_105 : decode cL_build 105 = .ok (.bipush 16, 2) := by decide +kernel
theorem dL_build_107 : decode cL_build 107 = .ok (.invokestatic 182, 3) := by decide +kernel
theorem dL_build_110 : decode cL_build 110 = .ok (.isub, 1) := by decide +kernel
theorem dL_build_111 : decode cL_build 111 = .ok (.iconst 1, 1) := by decide +kernel
theorem dL_build_112 : decode cL_build 112 = .ok (.aload_n 1, 1) := by decide +kernel
theorem dL_build_113 : decode cL_build 113 = .ok (.bipush 14, 2) := by decide +kernel
theorem dL_build_115 : decode cL_build 115 = .ok (.iload_n 2, 1) := by decide +kernel
theorem dL_build_116 : decode cL_build 116 = .ok (.iadd, 1) := by decide +kernel
theorem dL_build_117 : decode cL_build 117 = .ok (.bipush 6, 2) := by decide +kernel
theorem dL_build_119 : decode cL_build 119 = .ok (.invokestatic 182, 3) := by decide +kernel
theorem dL_build_122 : decode cL_build 122 = .ok (.iadd, 1) := by decide +kernel
theorem dL_build_123 : decode cL_build 123 = .ok (.invokestatic 170, 3) := by decide +kernel
theorem dL_build_126 : decode cL_build 126 = .ok (.pop, 1) := by decide +kernel
theorem dL_build_127 : decode cL_build 127 = .ok (.iload_n 2, 1) := by decide +kernel
theorem dL_build_128 : decode cL_build 128 = .ok (.ifCond .le 34, 3) := by decide +kernel
theorem dL_build_131 : decode cL_build 131 = .ok (.aload_n 1, 1) := by decide +kernel
theorem dL_build_132 : decode cL_build 132 = .ok (.bipush 19, 2) := by decide +kernel
theorem dL_build_134 : decode cL_build 134 = .ok (.iload_n 2, 1) := by decide +kernel
theorem dL_build_135 : decode cL_build 135 = .ok (.iadd, 1) := by decide +kernel
theorem dL_build_136 : decode cL_build 136 = .ok (.iconst 2, 1) := by decide +kernel
theorem dL_build_137 : decode cL_build 137 = .ok (.invokestatic 182, 3) := by decide +kernel
theorem dL_build_140 : decode cL_build 140 = .ok (.ifCond .ne 22, 3) := by decide +kernel
theorem dL_build_143 : decode cL_build 143 = .ok (.aload_n 0, 1) := by decide +kernel
theorem dL_build_144 : decode cL_build 144 = .ok (.getfield 10, 3) := by decide +kernel
theorem dL_build_147 : decode cL_build 147 = .ok (.iconst 4, 1) := by decide +kernel
theorem dL_build_148 : decode cL_build 148 = .ok (.iload_n 2, 1) := by decide +kernel
theorem dL_build_149 : decode cL_build 149 = .ok (.aload_n 1, 1) := by decide +kernel
theorem dL_build_150 : decode cL_build 150 = .ok (.bipush 24, 2) := by decide +kernel
theorem dL_build_152 : decode cL_build 152 = .ok (.iload_n 2, 1) := by decide +kernel
theorem dL_build_153 : decode cL_build 153 = .ok (.iadd, 1) := by decide +kernel
theorem dL_build_154 : decode cL_build 154 = .ok (.iload_n 2, 1) := by decide +kernel
theorem dL_build_155 : decode cL_build 155 = .ok (.invokestatic 182, 3) := by decide +kernel
theorem dL_build_158 : decode cL_build 158 = .ok (.invokestatic 170, 3) := by decide +kernel
theorem dL_build_161 : decode cL_build 161 = .ok (.pop, 1) := by decide +kernel
theorem dL_build_162 : decode cL_build 162 = .ok (.iinc 2 1, 3) := by decide +kernel
theorem dL_build_165 : decode cL_build 165 = .ok (.goto (-76), 3) := by decide +kernel
theorem dL_build_168 : decode cL_build 168 = .ok (.iconst 0, 1) := by decide +kernel
theorem dL_build_169 : decode cL_build 169 = .ok (.istore_n 2, 1) := by decide +kernel
theorem dL_build_170 : decode cL_build 170 = .ok (.iload_n 2, 1) := by decide +kernel
theorem dL_build_171 : decode cL_build 171 = .ok (.iconst 3, 1) := by decide +kernel
theorem dL_build_172 : decode cL_build 172 = .ok (.if_icmp .ge 69, 3) := by decide +kernel
theorem dL_build_175 : decode cL_build 175 = .ok (.aload_n 0, 1) := by decide +kernel
theorem dL_build_176 : decode cL_build 176 = .ok (.getfield 10, 3) := by decide +kernel
theorem dL_build_179 : decode cL_build 179 = .ok (.iconst 5, 1) := by decide +kernel
theorem dL_build_180 : decode cL_build 180 = .ok (.bipush (-2), 2) := by decide +kernel
theorem dL_build_182 : decode cL_build 182 = .ok (.aload_n 1, 1) := by decide +kernel
theorem dL_build_183 : decode cL_build 183 = .ok (.bipush 29, 2) := by decide +kernel
theorem dL_build_185 : decode cL_build 185 = .ok (.iload_n 2, 1) := by decide +kernel
theorem dL_build_186 : decode cL_build 186 = .ok (.iadd, 1) := by decide +kernel
theorem dL_build_187 : decode cL_build 187 = .ok (.bipush 12, 2) := by decide +kernel
theorem dL_build_189 : decode cL_build 189 = .ok (.invokestatic 182, 3) := by decide +kernel
theorem dL_build_192 : decode cL_build 192 = .ok (.isub, 1) := by decide +kernel
theorem dL_build_193 : decode cL_build 193 = .ok (.aload_n 1, 1) := by decide +kernel
theorem dL_build_194 : decode cL_build 194 = .ok (.bipush 32, 2) := by decide +kernel
theorem dL_build_196 : decode cL_build 196 = .ok (.iload_n 2, 1) := by decide +kernel
theorem dL_build_197 : decode cL_build 197 = .ok (.iadd, 1) := by decide +kernel
theorem dL_build_198 : decode cL_build 198 = .ok (.iconst 4, 1) := by decide +kernel
theorem dL_build_199 : decode cL_build 199 = .ok (.invokestatic 182, 3) := by decide +kernel
theorem dL_build_202 : decode cL_build 202 = .ok (.aload_n 1, 1) := by decide +kernel
theorem dL_build_203 : decode cL_build 203 = .ok (.bipush 35, 2) := by decide +kernel
theorem dL_build_205 : decode cL_build 205 = .ok (.iload_n 2, 1) := by decide +kernel
theorem dL_build_206 : decode cL_build 206 = .ok (.iadd, 1) := by decide +kernel
theorem dL_build_207 : decode cL_build 207 = .ok (.iconst 4, 1) := by decide +kernel
theorem dL_build_208 : decode cL_build 208 = .ok (.invokestatic 182, 3) := by decide +kernel
theorem dL_build_211 : decode cL_build 211 = .ok (.ifCond .ne 17, 3) := by decide +kernel
theorem dL_build_214 : decode cL_build 214 = .ok (.iconst 1, 1) := by decide +kernel
theorem dL_build_215 : decode cL_build 215 = .ok (.aload_n 1, 1) := by decide +kernel
theorem dL_build_216 : decode cL_build 216 = .ok (.bipush 38, 2) := by decide +kernel
theorem dL_build_218 : decode cL_build 218 = .ok (.iload_n 2, 1) := by decide +kernel
theorem dL_build_219 : decode cL_build 219 = .ok (.iadd, 1) := by decide +kernel
theorem dL_build_220 : decode cL_build 220 = .ok (.iconst 5, 1) := by decide +kernel
theorem dL_build_221 : decode cL_build 221 = .ok (.invokestatic 182, 3) := by decide +kernel
theorem dL_build_224 : decode cL_build 224 = .ok (.ishl, 1) := by decide +kernel
theorem dL_build_225 : decode cL_build 225 = .ok (.goto 4, 3) := by decide +kernel
theorem dL_build_228 : decode cL_build 228 = .ok (.iconst 0, 1) := by decide +kernel
theorem dL_build_229 : decode cL_build 229 = .ok (.iconst 0, 1) := by decide +kernel
theorem dL_build_230 : decode cL_build 230 = .ok (.iconst 0, 1) := by decide +kernel
theorem dL_build_231 : decode cL_build 231 = .ok (.invokestatic 161, 3) := by decide +kernel
theorem dL_build_234 : decode cL_build 234 = .ok (.pop, 1) := by decide +kernel
theorem dL_build_235 : decode cL_build 235 = .ok (.iinc 2 1, 3) := by decide +kernel
theorem dL_build_238 : decode cL_build 238 = .ok (.goto (-68), 3) := by decide +kernel
theorem dL_build_241 : decode cL_build 241 = .ok (.iconst 0, 1) := by decide +kernel
theorem dL_build_242 : decode cL_build 242 = .ok (.istore_n 2, 1) := by decide +kernel
theorem dL_build_243 : decode cL_build 243 = .ok (.iload_n 2, 1) := by decide +kernel
theorem dL_build_244 : decode cL_build 244 = .ok (.bipush 6, 2) := by decide +kernel
theorem dL_build_246 : decode cL_build 246 = .ok (.if_icmp .ge 119, 3) := by decide +kernel
theorem dL_build_249 : decode cL_build 249 = .ok (.iload_n 2, 1) := by decide +kernel
theorem dL_build_250 : decode cL_build 250 = .ok (.iconst 5, 1) := by decide +kernel
theorem dL_build_251 : decode cL_build 251 = .ok (.if_icmp .ne 7, 3) := by decide +kernel
theorem dL_build_254 : decode cL_build 254 = .ok (.iconst 1, 1) := by decide +kernel
theorem dL_build_255 : decode cL_build 255 = .ok (.goto 15, 3) := by decide +kernel
theorem dL_build_258 : decode cL_build 258 = .ok (.aload_n 1, 1) := by decide +kernel
theorem dL_build_259 : decode cL_build 259 = .ok (.bipush 41, 2) := by decide +kernel
theorem dL_build_261 : decode cL_build 261 = .ok (.iload_n 2, 1) := by decide +kernel
theorem dL_build_262 : decode cL_build 262 = .ok (.iadd, 1) := by decide +kernel
theorem dL_build_263 : decode cL_build 263 = .ok (.bipush 8, 2) := by decide +kernel
theorem dL_build_265 : decode cL_build 265 = .ok (.invokestatic 182, 3) := by decide +kernel
theorem dL_build_268 : decode cL_build 268 = .ok (.iconst 4, 1) := by decide +kernel
theorem dL_build_269 : decode cL_build 269 = .ok (.isub, 1) := by decide +kernel
theorem dL_build_270 : decode cL_build 270 = .ok (.istore_n 3, 1) := by decide +kernel
theorem dL_build_271 : decode cL_build 271 = .ok (.aload_n 0, 1) := by decide +kernel
theorem dL_build_272 : decode cL_build 272 = .ok (.getfield 10, 3) := by decide +kernel
theorem dL_build_275 : decode cL_build 275 = .ok (.bipush 11, 2) := by decide +kernel
theorem dL_build_277 : decode cL_build 277 = .ok (.ldc 186, 2) := by decide +kernel
theorem dL_build_279 : decode cL_build 279 = .ok (.iload_n 2, 1) := by decide +kernel
theorem dL_build_280 : decode cL_build 280 = .ok (.invokevirtual 188, 3) := by decide +kernel
theorem dL_build_283 : decode cL_build 283 = .ok (.iload_n 2, 1) := by decide +kernel
theorem dL_build_284 : decode cL_build 284 = .ok (.ifCond .ne 13, 3) := by decide +kernel
theorem dL_build_287 : decode cL_build 287 = .ok (.aload_n 1, 1) := by decide +kernel
theorem dL_build_288 : decode cL_build 288 = .ok (.bipush 47, 2) := by decide +kernel
theorem dL_build_290 : decode cL_build 290 = .ok (.iconst 3, 1) := by decide +kernel
theorem dL_build_291 : decode cL_build 291 = .ok (.invokestatic 182, 3) := by decide +kernel
theorem dL_build_294 : decode cL_build 294 = .ok (.goto 4, 3) := by decide +kernel
theorem dL_build_297 : decode cL_build 297 = .ok (.iconst 0, 1) := by decide +kernel
theorem dL_build_298 : decode cL_build 298 = .ok (.iload_n 3, 1) := by decide +kernel
theorem dL_build_299 : decode cL_build 299 = .ok (.iload_n 3, 1) := by decide +kernel
theorem dL_build_300 : decode cL_build 300 = .ok (.sipush 400, 3) := by decide +kernel
theorem dL_build_303 : decode cL_build 303 = .ok (.iadd, 1) := by decide +kernel
theorem dL_build_304 : decode cL_build 304 = .ok (.aload_n 1, 1) := by decide +kernel
theorem dL_build_305 : decode cL_build 305 = .ok (.bipush 48, 2) := by decide +kernel
theorem dL_build_307 : decode cL_build 307 = .ok (.iload_n 2, 1) := by decide +kernel
theorem dL_build_308 : decode cL_build 308 = .ok (.iadd, 1) := by decide +kernel
theorem dL_build_309 : decode cL_build 309 = .ok (.sipush 800, 3) := by decide +kernel
theorem dL_build_312 : decode cL_build 312 = .ok (.invokestatic 182, 3) := by decide +kernel
theorem dL_build_315 : decode cL_build 315 = .ok (.iadd, 1) := by decide +kernel
theorem dL_build_316 : decode cL_build 316 = .ok (.aload_n 1, 1) := by decide +kernel
theorem dL_build_317 : decode cL_build 317 = .ok (.bipush 54, 2) := by decide +kernel
theorem dL_build_319 : decode cL_build 319 = .ok (.iload_n 2, 1) := by decide +kernel
theorem dL_build_320 : decode cL_build 320 = .ok (.iadd, 1) := by decide +kernel
theorem dL_build_321 : decode cL_build 321 = .ok (.iconst 4, 1) := by decide +kernel
theorem dL_build_322 : decode cL_build 322 = .ok (.invokestatic 182, 3) := by decide +kernel
theorem dL_build_325 : decode cL_build 325 = .ok (.invokestatic 161, 3) := by decide +kernel
theorem dL_build_328 : decode cL_build 328 = .ok (.pop, 1) := by decide +kernel
theorem dL_build_329 : decode cL_build 329 = .ok (.aload_n 0, 1) := by decide +kernel
theorem dL_build_330 : decode cL_build 330 = .ok (.getfield 10, 3) := by decide +kernel
theorem dL_build_333 : decode cL_build 333 = .ok (.bipush 12, 2) := by decide +kernel
theorem dL_build_335 : decode cL_build 335 = .ok (.iload_n 2, 1) := by decide +kernel
theorem dL_build_336 : decode cL_build 336 = .ok (.aload_n 1, 1) := by decide +kernel
theorem dL_build_337 : decode cL_build 337 = .ok (.bipush 60, 2) := by decide +kernel
theorem dL_build_339 : decode cL_build 339 = .ok (.iload_n 2, 1) := by decide +kernel
theorem dL_build_340 : decode cL_build 340 = .ok (.iadd, 1) := by decide +kernel
theorem dL_build_341 : decode cL_build 341 = .ok (.bipush 6, 2) := by decide +kernel
theorem dL_build_343 : decode cL_build 343 = .ok (.invokestatic 182, 3) := by decide +kernel
theorem dL_build_346 : decode cL_build 346 = .ok (.invokestatic 170, 3) := by decide +kernel
theorem dL_build_349 : decode cL_build 349 = .ok (.pop, 1) := by decide +kernel
theorem dL_build_350 : decode cL_build 350 = .ok (.aload_n 0, 1) := by decide +kernel
theorem dL_build_351 : decode cL_build 351 = .ok (.getfield 16, 3) := by decide +kernel
theorem dL_build_354 : decode cL_build 354 = .ok (.iload_n 2, 1) := by decide +kernel
theorem dL_build_355 : decode cL_build 355 = .ok (.sipush (-9999), 3) := by decide +kernel
theorem dL_build_358 : decode cL_build 358 = .ok (.iastore, 1) := by decide +kernel
theorem dL_build_359 : decode cL_build 359 = .ok (.iinc 2 1, 3) := by decide +kernel
theorem dL_build_362 : decode cL_build 362 = .ok (.goto (-119), 3) := by decide +kernel
theorem dL_build_365 : decode cL_build 365 = .ok (.aload_n 0, 1) := by decide +kernel
theorem dL_build_366 : decode cL_build 366 = .ok (.getfield 10, 3) := by decide +kernel
theorem dL_build_369 : decode cL_build 369 = .ok (.bipush 14, 2) := by decide +kernel
theorem dL_build_371 : decode cL_build 371 = .ok (.iconst 0, 1) := by decide +kernel
theorem dL_build_372 : decode cL_build 372 = .ok (.iconst 1, 1) := by decide +kernel
theorem dL_build_373 : decode cL_build 373 = .ok (.iconst 0, 1) := by decide +kernel
theorem dL_build_374 : decode cL_build 374 = .ok (.iconst 0, 1) := by decide +kernel
theorem dL_build_375 : decode cL_build 375 = .ok (.iconst 0, 1) := by decide +kernel
theorem dL_build_376 : decode cL_build 376 = .ok (.invokestatic 161, 3) := by decide +kernel
theorem dL_build_379 : decode cL_build 379 = .ok (.pop, 1) := by decide +kernel
theorem dL_build_380 : decode cL_build 380 = .ok (.return_, 1) := by decide +kernel
theorem dL_isWaivedAt_0 : decode cL_isWaivedAt 0 = .ok (.iload_n 2, 1) := by decide +kernel
theorem dL_isWaivedAt_1 : decode cL_isWaivedAt 1 = .ok (.aload_n 0, 1) := by decide +kernel
theorem dL_isWaivedAt_2 : decode cL_isWaivedAt 2 = .ok (.getfield 16, 3) := by decide +kernel
theorem dL_isWaivedAt_5 : decode cL_isWaivedAt 5 = .ok (.iload_n 1, 1) := by decide +kernel
theorem dL_isWaivedAt_6 : decode cL_isWaivedAt 6 = .ok (.iaload, 1) := by decide +kernel
theorem dL_isWaivedAt_7 : decode cL_isWaivedAt 7 = .ok (.if_icmp .gt 7, 3) := by decide +kernel
theorem dL_isWaivedAt_10 : decode cL_isWaivedAt 10 = .ok (.iconst 1, 1) := by decide +kernel
theorem dL_isWaivedAt_11 : decode cL_isWaivedAt 11 = .ok (.goto 4, 3) := by decide +kernel
theorem dL_isWaivedAt_14 : decode cL_isWaivedAt 14 = .ok (.iconst 0, 1) := by decide +kernel
theorem dL_isWaivedAt_15 : decode cL_isWaivedAt 15 = .ok (.ireturn, 1) := by decide +kernel
theorem dL_areTanksRight_0 : decode cL_areTanksRight 0 = .ok (.iconst 1, 1) := by decide +kernel
theorem dL_areTanksRight_1 : decode cL_areTanksRight 1 = .ok (.istore_n 2, 1) := by decide +kernel
theorem dL_areTanksRight_2 : decode cL_areTanksRight 2 = .ok (.iconst 0, 1) := by decide +kernel
theorem dL_areTanksRight_3 : decode cL_areTanksRight 3 = .ok (.istore_n 3, 1) := by decide +kernel
theorem dL_areTanksRight_4 : decode cL_areTanksRight 4 = .ok (.iload_n 3, 1) := by decide +kernel
theorem dL_areTanksRight_5 : decode cL_areTanksRight 5 = .ok (.iconst 3, 1) := by decide +kernel
theorem dL_areTanksRight_6 : decode cL_areTanksRight 6 = .ok (.if_icmp .ge 85, 3) := by decide +kernel
theorem dL_areTanksRight_9 : decode cL_areTanksRight 9 = .ok (.aload_n 1, 1) := by decide +kernel
theorem dL_areTanksRight_10 : decode cL_areTanksRight 10 = .ok (.iload_n 3, 1) := by decide +kernel
theorem dL_areTanksRight_11 : decode cL_areTanksRight 11 = .ok (.iaload, 1) := by decide +kernel
theorem dL_areTanksRight_12 : decode cL_areTanksRight 12 = .ok (.aload_n 1, 1) := by decide +kernel
theorem dL_areTanksRight_13 : decode cL_areTanksRight 13 = .ok (.iload_n 3, 1) := by decide +kernel
theorem dL_areTanksRight_14 : decode cL_areTanksRight 14 = .ok (.iaload, 1) := by decide +kernel
theorem dL_areTanksRight_15 : decode cL_areTanksRight 15 = .ok (.aload_n 0, 1) := by decide +kernel
theorem dL_areTanksRight_16 : decode cL_areTanksRight 16 = .ok (.getfield 26, 3) := by decide +kernel
theorem dL_areTanksRight_19 : decode cL_areTanksRight 19 = .ok (.iload_n 3, 1) := by decide +kernel
theorem dL_areTanksRight_20 : decode cL_areTanksRight 20 = .ok (.iaload, 1) := by decide +kernel
theorem dL_areTanksRight_21 : decode cL_areTanksRight 21 = .ok (.imul, 1) := by decide +kernel
theorem dL_areTanksRight_22 : decode cL_areTanksRight 22 = .ok (.sipush 1000, 3) := by decide +kernel
theorem dL_areTanksRight_25 : decode cL_areTanksRight 25 = .ok (.idiv, 1) := by decide +kernel
theorem dL_areTanksRight_26 : decode cL_areTanksRight 26 = .ok (.isub, 1) := by decide +kernel
theorem dL_areTanksRight_27 : decode cL_areTanksRight 27 = .ok (.istore 4, 2) := by decide +kernel
theorem dL_areTanksRight_29 : decode cL_areTanksRight 29 = .ok (.iload_n 2, 1) := by decide +kernel
theorem dL_areTanksRight_30 : decode cL_areTanksRight 30 = .ok (.ifCond .eq 53, 3) := by decide +kernel
theorem dL_areTanksRight_33 : decode cL_areTanksRight 33 = .ok (.aload_n 0, 1) := by decide +kernel
theorem dL_areTanksRight_34 : decode cL_areTanksRight 34 = .ok (.getfield 10, 3) := by decide +kernel
theorem dL_areTanksRight_37 : decode cL_areTanksRight 37 = .ok (.bipush 20, 2) := by decide +kernel
theorem dL_areTanksRight_39 : decode cL_areTanksRight 39 = .ok (.iload_n 3, 1) := by decide +kernel
theorem dL_areTanksRight_40 : decode cL_areTanksRight 40 = .ok (.iconst 0, 1) := by decide +kernel
theorem dL_areTanksRight_41 : decode cL_areTanksRight 41 = .ok (.invokestatic 170, 3) := by decide +kernel
theorem dL_areTanksRight_44 : decode cL_areTanksRight 44 = .ok (.aload_n 0, 1) := by decide +kernel
theorem dL_areTanksRight_45 : decode cL_areTanksRight 45 = .ok (.getfield 29, 3) := by decide +kernel
theorem dL_areTanksRight_48 : decode cL_areTanksRight 48 = .ok (.iload_n 3, 1) := by decide +kernel
theorem dL_areTanksRight_49 : decode cL_areTanksRight 49 = .ok (.baload, 1) := by decide +kernel
theorem dL_areTanksRight_50 : decode cL_areTanksRight 50 = .ok (.ifCond .eq 24, 3) := by decide +kernel
theorem dL_areTanksRight_53 : decode cL_areTanksRight 53 = .ok (.aload_n 0, 1) := by decide +kernel
theorem dL_areTanksRight_54 : decode cL_areTanksRight 54 = .ok (.getfield 20, 3) := by decide +kernel
theorem dL_areTanksRight_57 : decode cL_areTanksRight 57 = .ok (.iload_n 3, 1) := by decide +kernel
theorem dL_areTanksRight_58 : decode cL_areTanksRight 58 = .ok (.iaload, 1) := by decide +kernel
theorem dL_areTanksRight_59 : decode cL_areTanksRight 59 = .ok (.iload 4, 2) := by decide +kernel
theorem dL_areTanksRight_61 : decode cL_areTanksRight 61 = .ok (.aload_n 0, 1) := by decide +kernel
theorem dL_areTanksRight_62 : decode cL_areTanksRight 62 = .ok (.getfield 23, 3) := by decide +kernel
theorem dL_areTanksRight_65 : decode cL_areTanksRight 65 = .ok (.iload_n 3, 1) := by decide +kernel
theorem dL_areTanksRight_66 : decode cL_areTanksRight 66 = .ok (.iaload, 1) := by decide +kernel
theorem dL_areTanksRight_67 : decode cL_areTanksRight 67 = .ok (.iadd, 1) := by decide +kernel
theorem dL_areTanksRight_68 : decode cL_areTanksRight 68 = .ok (.invokestatic 193, 3) := by decide +kernel
theorem dL_areTanksRight_71 : decode cL_areTanksRight 71 = .ok (.goto 5, 3) := by decide +kernel
theorem dL_areTanksRight_74 : decode cL_areTanksRight 74 = .ok (.iload 4, 2) := by decide +kernel
theorem dL_areTanksRight_76 : decode cL_areTanksRight 76 = .ok (.if_icmp .ne 7, 3) := by decide +kernel
theorem dL_areTanksRight_79 : decode cL_areTanksRight 79 = .ok (.iconst 1, 1) := by decide +kernel
theorem dL_areTanksRight_80 : decode cL_areTanksRight 80 = .ok (.goto 4, 3) := by decide +kernel
theorem dL_areTanksRight_83 : decode cL_areTanksRight 83 = .ok (.iconst 0, 1) := by decide +kernel
theorem dL_areTanksRight_84 : decode cL_areTanksRight 84 = .ok (.istore_n 2, 1) := by decide +kernel
theorem dL_areTanksRight_85 : decode cL_areTanksRight 85 = .ok (.iinc 3 1, 3) := by decide +kernel
theorem dL_areTanksRight_88 : decode cL_areTanksRight 88 = .ok (.goto (-84), 3) := by decide +kernel
theorem dL_areTanksRight_91 : decode cL_areTanksRight 91 = .ok (.iload_n 2, 1) := by decide +kernel
theorem dL_areTanksRight_92 : decode cL_areTanksRight 92 = .ok (.ireturn, 1) := by decide +kernel
theorem dL_isMetAt_0 : decode cL_isMetAt 0 = .ok (.iload_n 2, 1) := by decide +kernel
theorem dL_isMetAt_1 : decode cL_isMetAt 1 = .ok (.iconst 5, 1) := by decide +kernel
theorem dL_isMetAt_2 : decode cL_isMetAt 2 = .ok (.if_icmp .ne 7, 3) := by decide +kernel
theorem dL_isMetAt_5 : decode cL_isMetAt 5 = .ok (.iconst 1, 1) := by decide +kernel
theorem dL_isMetAt_6 : decode cL_isMetAt 6 = .ok (.goto 15, 3) := by decide +kernel
theorem dL_isMetAt_9 : decode cL_isMetAt 9 = .ok (.aload_n 1, 1) := by decide +kernel
theorem dL_isMetAt_10 : decode cL_isMetAt 10 = .ok (.bipush 41, 2) := by decide +kernel
theorem dL_isMetAt_12 : decode cL_isMetAt 12 = .ok (.iload_n 2, 1) := by decide +kernel
theorem dL_isMetAt_13 : decode cL_isMetAt 13 = .ok (.iadd, 1) := by decide +kernel
theorem dL_isMetAt_14 : decode cL_isMetAt 14 = .ok (.bipush 8, 2) := by decide +kernel
theorem dL_isMetAt_16 : decode cL_isMetAt 16 = .ok (.invokestatic 182, 3) := by decide +kernel
theorem dL_isMetAt_19 : decode cL_isMetAt 19 = .ok (.iconst 4, 1) := by decide +kernel
theorem dL_isMetAt_20 : decode cL_isMetAt 20 = .ok (.isub, 1) := by decide +kernel
theorem dL_isMetAt_21 : decode cL_isMetAt 21 = .ok (.istore 4, 2) := by decide +kernel
theorem dL_isMetAt_23 : decode cL_isMetAt 23 = .ok (.iload 4, 2) := by decide +kernel
theorem dL_isMetAt_25 : decode cL_isMetAt 25 = .ok (.sipush 400, 3) := by decide +kernel
theorem dL_isMetAt_28 : decode cL_isMetAt 28 = .ok (.iadd, 1) := by decide +kernel
theorem dL_isMetAt_29 : decode cL_isMetAt 29 = .ok (.aload_n 1, 1) := by decide +kernel
theorem dL_isMetAt_30 : decode cL_isMetAt 30 = .ok (.bipush 48, 2) := by decide +kernel
theorem dL_isMetAt_32 : decode cL_isMetAt 32 = .ok (.iload_n 2, 1) := by decide +kernel
theorem dL_isMetAt_33 : decode cL_isMetAt 33 = .ok (.iadd, 1) := by decide +kernel
theorem dL_isMetAt_34 : decode cL_isMetAt 34 = .ok (.sipush 800, 3) := by decide +kernel
theorem dL_isMetAt_37 : decode cL_isMetAt 37 = .ok (.invokestatic 182, 3) := by decide +kernel
theorem dL_isMetAt_40 : decode cL_isMetAt 40 = .ok (.iadd, 1) := by decide +kernel
theorem dL_isMetAt_41 : decode cL_isMetAt 41 = .ok (.istore 5, 2) := by decide +kernel
theorem dL_isMetAt_43 : decode cL_isMetAt 43 = .ok (.aload_n 0, 1) := by decide +kernel
theorem dL_isMetAt_44 : decode cL_isMetAt 44 = .ok (.getfield 10, 3) := by decide +kernel
theorem dL_isMetAt_47 : decode cL_isMetAt 47 = .ok (.bipush 22, 2) := by decide +kernel
theorem dL_isMetAt_49 : decode cL_isMetAt 49 = .ok (.iload_n 2, 1) := by decide +kernel
theorem dL_isMetAt_50 : decode cL_isMetAt 50 = .ok (.iconst 0, 1) := by decide +kernel
theorem dL_isMetAt_51 : decode cL_isMetAt 51 = .ok (.invokestatic 170, 3) := by decide +kernel
theorem dL_isMetAt_54 : decode cL_isMetAt 54 = .ok (.istore 6, 2) := by decide +kernel
theorem dL_isMetAt_56 : decode cL_isMetAt 56 = .ok (.iload 6, 2) := by decide +kernel
theorem dL_isMetAt_58 : decode cL_isMetAt 58 = .ok (.iload 4, 2) := by decide +kernel
theorem dL_isMetAt_60 : decode cL_isMetAt 60 = .ok (.if_icmp .lt 33, 3) := by decide +kernel
theorem dL_isMetAt_63 : decode cL_isMetAt 63 = .ok (.iload 6, 2) := by decide +kernel
theorem dL_isMetAt_65 : decode cL_isMetAt 65 = .ok (.iload 5, 2) := by decide +kernel
theorem dL_isMetAt_67 : decode cL_isMetAt 67 = .ok (.if_icmp .gt 26, 3) := by decide +kernel
theorem dL_isMetAt_70 : decode cL_isMetAt 70 = .ok (.aload_n 0, 1) := by decide +kernel
theorem dL_isMetAt_71 : decode cL_isMetAt 71 = .ok (.getfield 10, 3) := by decide +kernel
theorem dL_isMetAt_74 : decode cL_isMetAt 74 = .ok (.bipush 23, 2) := by decide +kernel
theorem dL_isMetAt_76 : decode cL_isMetAt 76 = .ok (.iload_n 2, 1) := by decide +kernel
theorem dL_isMetAt_77 : decode cL_isMetAt 77 = .ok (.iconst 0, 1) := by decide +kernel
theorem dL_isMetAt_78 : decode cL_isMetAt 78 = .ok (.invokestatic 170, 3) := by decide +kernel
theorem dL_isMetAt_81 : decode cL_isMetAt 81 = .ok (.aload_n 1, 1) := by decide +kernel
theorem dL_isMetAt_82 : decode cL_isMetAt 82 = .ok (.bipush 54, 2) := by decide +kernel
theorem dL_isMetAt_84 : decode cL_isMetAt 84 = .ok (.iload_n 2, 1) := by decide +kernel
theorem dL_isMetAt_85 : decode cL_isMetAt 85 = .ok (.iadd, 1) := by decide +kernel
theorem dL_isMetAt_86 : decode cL_isMetAt 86 = .ok (.iconst 4, 1) := by decide +kernel
theorem dL_isMetAt_87 : decode cL_isMetAt 87 = .ok (.invokestatic 182, 3) := by decide +kernel
theorem dL_isMetAt_90 : decode cL_isMetAt 90 = .ok (.if_icmp .ge 12, 3) := by decide +kernel
theorem dL_isMetAt_93 : decode cL_isMetAt 93 = .ok (.aload_n 0, 1) := by decide +kernel
theorem dL_isMetAt_94 : decode cL_isMetAt 94 = .ok (.iload_n 2, 1) := by decide +kernel
theorem dL_isMetAt_95 : decode cL_isMetAt 95 = .ok (.iload_n 3, 1) := by decide +kernel
theorem dL_isMetAt_96 : decode cL_isMetAt 96 = .ok (.invokevirtual 198, 3) := by decide +kernel
theorem dL_isMetAt_99 : decode cL_isMetAt 99 = .ok (.ifCond .eq 7, 3) := by decide +kernel
theorem dL_isMetAt_102 : decode cL_isMetAt 102 = .ok (.iconst 1, 1) := by decide +kernel
theorem dL_isMetAt_103 : decode cL_isMetAt 103 = .ok (.goto 4, 3) := by decide +kernel
theorem dL_isMetAt_106 : decode cL_isMetAt 106 = .ok (.iconst 0, 1) := by decide +kernel
theorem dL_isMetAt_107 : decode cL_isMetAt 107 = .ok (.ireturn, 1) := by decide +kernel
theorem dL_firstNotMet_0 : decode cL_firstNotMet 0 = .ok (.iconst 0, 1) := by decide +kernel
theorem dL_firstNotMet_1 : decode cL_firstNotMet 1 = .ok (.istore_n 3, 1) := by decide +kernel
theorem dL_firstNotMet_2 : decode cL_firstNotMet 2 = .ok (.iload_n 3, 1) := by decide +kernel
theorem dL_firstNotMet_3 : decode cL_firstNotMet 3 = .ok (.bipush 6, 2) := by decide +kernel
theorem dL_firstNotMet_5 : decode cL_firstNotMet 5 = .ok (.if_icmp .ge 19, 3) := by decide +kernel
theorem dL_firstNotMet_8 : decode cL_firstNotMet 8 = .ok (.aload_n 0, 1) := by decide +kernel
theorem dL_firstNotMet_9 : decode cL_firstNotMet 9 = .ok (.aload_n 1, 1) := by decide +kernel
theorem dL_firstNotMet_10 : decode cL_firstNotMet 10 = .ok (.iload_n 3, 1) := by decide +kernel
theorem dL_firstNotMet_11 : decode cL_firstNotMet 11 = .ok (.iload_n 2, 1) := by decide +kernel
theorem dL_firstNotMet_12 : decode cL_firstNotMet 12 = .ok (.invokevirtual 201, 3) := by decide +kernel
theorem dL_firstNotMet_15 : decode cL_firstNotMet 15 = .ok (.ifCond .eq 9, 3) := by decide +kernel
theorem dL_firstNotMet_18 : decode cL_firstNotMet 18 = .ok (.iinc 3 1, 3) := by decide +kernel
theorem dL_firstNotMet_21 : decode cL_firstNotMet 21 = .ok (.goto (-19), 3) := by decide +kernel
theorem dL_firstNotMet_24 : decode cL_firstNotMet 24 = .ok (.iload_n 3, 1) := by decide +kernel
theorem dL_firstNotMet_25 : decode cL_firstNotMet 25 = .ok (.ireturn, 1) := by decide +kernel
theorem dL_isHeldRight_0 : decode cL_isHeldRight 0 = .ok (.aload_n 0, 1) := by decide +kernel
theorem dL_isHeldRight_1 : decode cL_isHeldRight 1 = .ok (.aload_n 1, 1) := by decide +kernel
theorem dL_isHeldRight_2 : decode cL_isHeldRight 2 = .ok (.iload_n 2, 1) := by decide +kernel
theorem dL_isHeldRight_3 : decode cL_isHeldRight 3 = .ok (.invokevirtual 205, 3) := by decide +kernel
theorem dL_isHeldRight_6 : decode cL_isHeldRight 6 = .ok (.istore_n 3, 1) := by decide +kernel
theorem dL_isHeldRight_7 : decode cL_isHeldRight 7 = .ok (.aload_n 0, 1) := by decide +kernel
theorem dL_isHeldRight_8 : decode cL_isHeldRight 8 = .ok (.getfield 10, 3) := by decide +kernel
theorem dL_isHeldRight_11 : decode cL_isHeldRight 11 = .ok (.bipush 27, 2) := by decide +kernel
theorem dL_isHeldRight_13 : decode cL_isHeldRight 13 = .ok (.iconst 0, 1) := by decide +kernel
theorem dL_isHeldRight_14 : decode cL_isHeldRight 14 = .ok (.iconst 0, 1) := by decide +kernel
theorem dL_isHeldRight_15 : decode cL_isHeldRight 15 = .ok (.invokestatic 170, 3) := by decide +kernel
theorem dL_isHeldRight_18 : decode cL_isHeldRight 18 = .ok (.istore 4, 2) := by decide +kernel
theorem dL_isHeldRight_20 : decode cL_isHeldRight 20 = .ok (.iload_n 3, 1) := by decide +kernel
theorem dL_isHeldRight_21 : decode cL_isHeldRight 21 = .ok (.bipush 6, 2) := by decide +kernel
theorem dL_isHeldRight_23 : decode cL_isHeldRight 23 = .ok (.if_icmp .ge 7, 3) := by decide +kernel
theorem dL_isHeldRight_26 : decode cL_isHeldRight 26 = .ok (.iconst 1, 1) := by decide +kernel
theorem dL_isHeldRight_27 : decode cL_isHeldRight 27 = .ok (.goto 4, 3) := by decide +kernel
theorem dL_isHeldRight_30 : decode cL_isHeldRight 30 = .ok (.iconst 0, 1) := by decide +kernel
theorem dL_isHeldRight_31 : decode cL_isHeldRight 31 = .ok (.istore 5, 2) := by decide +kernel
theorem dL_isHeldRight_33 : decode cL_isHeldRight 33 = .ok (.iload 5, 2) := by decide +kernel
theorem dL_isHeldRight_35 : decode cL_isHeldRight 35 = .ok (.ifCond .eq 37, 3) := by decide +kernel
theorem dL_isHeldRight_38 : decode cL_isHeldRight 38 = .ok (.iload 4, 2) := by decide +kernel
theorem dL_isHeldRight_40 : decode cL_isHeldRight 40 = .ok (.ldc 186, 2) := by decide +kernel
theorem dL_isHeldRight_42 : decode cL_isHeldRight 42 = .ok (.iload_n 3, 1) := by decide +kernel
theorem dL_isHeldRight_43 : decode cL_isHeldRight 43 = .ok (.invokevirtual 188, 3) := by decide +kernel
theorem dL_isHeldRight_46 : decode cL_isHeldRight 46 = .ok (.if_icmp .ne 22, 3) := by decide +kernel
theorem dL_isHeldRight_49 : decode cL_isHeldRight 49 = .ok (.aload_n 0, 1) := by decide +kernel
theorem dL_isHeldRight_50 : decode cL_isHeldRight 50 = .ok (.getfield 10, 3) := by decide +kernel
theorem dL_isHeldRight_53 : decode cL_isHeldRight 53 = .ok (.bipush 28, 2) := by decide +kernel
theorem dL_isHeldRight_55 : decode cL_isHeldRight 55 = .ok (.iconst 0, 1) := by decide +kernel
theorem dL_isHeldRight_56 : decode cL_isHeldRight 56 = .ok (.iconst 0, 1) := by decide +kernel
theorem dL_isHeldRight_57 : decode cL_isHeldRight 57 = .ok (.invokestatic 170, 3) := by decide +kernel
theorem dL_isHeldRight_60 : decode cL_isHeldRight 60 = .ok (.iload_n 3, 1) := by decide +kernel
theorem dL_isHeldRight_61 : decode cL_isHeldRight 61 = .ok (.if_icmp .ne 7, 3) := by decide +kernel
theorem dL_isHeldRight_64 : decode cL_isHeldRight 64 = .ok (.iconst 1, 1) := by decide +kernel
theorem dL_isHeldRight_65 : decode cL_isHeldRight 65 = .ok (.goto 62, 3) := by decide +kernel
theorem dL_isHeldRight_68 : decode cL_isHeldRight 68 = .ok (.iconst 0, 1) := by decide +kernel
theorem dL_isHeldRight_69 : decode cL_isHeldRight 69 = .ok (.goto 58, 3) := by decide +kernel
theorem dL_isHeldRight_72 : decode cL_isHeldRight 72 = .ok (.iload 4, 2) := by decide +kernel
theorem dL_isHeldRight_74 : decode cL_isHeldRight 74 = .ok (.bipush 109, 2) := by decide +kernel
theorem dL_isHeldRight_76 : decode cL_isHeldRight 76 = .ok (.if_icmp .eq 29, 3) := by decide +kernel
theorem dL_isHeldRight_79 : decode cL_isHeldRight 79 = .ok (.iload 4, 2) := by decide +kernel
theorem dL_isHeldRight_81 : decode cL_isHeldRight 81 = .ok (.bipush 111, 2) := by decide +kernel
theorem dL_isHeldRight_83 : decode cL_isHeldRight 83 = .ok (.if_icmp .ne 43, 3) := by decide +kernel
theorem dL_isHeldRight_86 : decode cL_isHeldRight 86 = .ok (.iload_n 2, 1) := by decide +kernel
theorem dL_isHeldRight_87 : decode cL_isHeldRight 87 = .ok (.iconst (-1), 1) := by decide +kernel
theorem dL_isHeldRight_88 : decode cL_isHeldRight 88 = .ok (.if_icmp .ne 38, 3) := by decide +kernel
theorem dL_isHeldRight_91 : decode cL_isHeldRight 91 = .ok (.aload_n 0, 1) := by decide +kernel
theorem dL_isHeldRight_92 : decode cL_isHeldRight 92 = .ok (.getfield 10, 3) := by decide +kernel
theorem dL_isHeldRight_95 : decode cL_isHeldRight 95 = .ok (.invokevirtual 208, 3) := by decide +kernel
theorem dL_isHeldRight_98 : decode cL_isHeldRight 98 = .ok (.aload_n 0, 1) := by decide +kernel
theorem dL_isHeldRight_99 : decode cL_isHeldRight 99 = .ok (.getfield 211, 3) := by decide +kernel
theorem dL_isHeldRight_102 : decode cL_isHeldRight 102 = .ok (.if_icmp .ge 24, 3) := by decide +kernel
theorem dL_isHeldRight_105 : decode cL_isHeldRight 105 = .ok (.aload_n 0, 1) := by decide +kernel
theorem dL_isHeldRight_106 : decode cL_isHeldRight 106 = .ok (.getfield 10, 3) := by decide +kernel
theorem dL_isHeldRight_109 : decode cL_isHeldRight 109 = .ok (.bipush 28, 2) := by decide +kernel
theorem dL_isHeldRight_111 : decode cL_isHeldRight 111 = .ok (.iconst 0, 1) := by decide +kernel
theorem dL_isHeldRight_112 : decode cL_isHeldRight 112 = .ok (.iconst 0, 1) := by decide +kernel
theorem dL_isHeldRight_113 : decode cL_isHeldRight 113 = .ok (.invokestatic 170, 3) := by decide +kernel
theorem dL_isHeldRight_116 : decode cL_isHeldRight 116 = .ok (.sipush (-20005), 3) := by decide +kernel
theorem dL_isHeldRight_119 : decode cL_isHeldRight 119 = .ok (.if_icmp .ne 7, 3) := by decide +kernel
theorem dL_isHeldRight_122 : decode cL_isHeldRight 122 = .ok (.iconst 1, 1) := by decide +kernel
theorem dL_isHeldRight_123 : decode cL_isHeldRight 123 = .ok (.goto 4, 3) := by decide +kernel
theorem dL_isHeldRight_126 : decode cL_isHeldRight 126 = .ok (.iconst 0, 1) := by decide +kernel
theorem dL_isHeldRight_127 : decode cL_isHeldRight 127 = .ok (.istore 6, 2) := by decide +kernel
theorem dL_isHeldRight_129 : decode cL_isHeldRight 129 = .ok (.iload 6, 2) := by decide +kernel
theorem dL_isHeldRight_131 : decode cL_isHeldRight 131 = .ok (.ifCond .eq 22, 3) := by decide +kernel
theorem dL_isHeldRight_134 : decode cL_isHeldRight 134 = .ok (.aload_n 0, 1) := by decide +kernel
theorem dL_isHeldRight_135 : decode cL_isHeldRight 135 = .ok (.getfield 10, 3) := by decide +kernel
theorem dL_isHeldRight_138 : decode cL_isHeldRight 138 = .ok (.bipush 25, 2) := by decide +kernel
theorem dL_isHeldRight_140 : decode cL_isHeldRight 140 = .ok (.iconst 0, 1) := by decide +kernel
theorem dL_isHeldRight_141 : decode cL_isHeldRight 141 = .ok (.iconst 0, 1) := by decide +kernel
theorem dL_isHeldRight_142 : decode cL_isHeldRight 142 = .ok (.invokestatic 170, 3) := by decide +kernel
theorem dL_isHeldRight_145 : decode cL_isHeldRight 145 = .ok (.iload_n 2, 1) := by decide +kernel
theorem dL_isHeldRight_146 : decode cL_isHeldRight 146 = .ok (.if_icmp .ne 7, 3) := by decide +kernel
theorem dL_isHeldRight_149 : decode cL_isHeldRight 149 = .ok (.iconst 1, 1) := by decide +kernel
theorem dL_isHeldRight_150 : decode cL_isHeldRight 150 = .ok (.goto 4, 3) := by decide +kernel
theorem dL_isHeldRight_153 : decode cL_isHeldRight 153 = .ok (.iconst 0, 1) := by decide +kernel
theorem dL_isHeldRight_154 : decode cL_isHeldRight 154 = .ok (.ireturn, 1) := by decide +kernel
theorem dL_passes_0 : decode cL_passes 0 = .ok (.aload_n 0, 1) := by decide +kernel
theorem dL_passes_1 : decode cL_passes 1 = .ok (.getfield 10, 3) := by decide +kernel
theorem dL_passes_4 : decode cL_passes 4 = .ok (.invokevirtual 215, 3) := by decide +kernel
theorem dL_passes_7 : decode cL_passes 7 = .ok (.istore_n 2, 1) := by decide +kernel
theorem dL_passes_8 : decode cL_passes 8 = .ok (.aload_n 0, 1) := by decide +kernel
theorem dL_passes_9 : decode cL_passes 9 = .ok (.getfield 10, 3) := by decide +kernel
theorem dL_passes_12 : decode cL_passes 12 = .ok (.invokevirtual 208, 3) := by decide +kernel
theorem dL_passes_15 : decode cL_passes 15 = .ok (.istore_n 3, 1) := by decide +kernel
theorem dL_passes_16 : decode cL_passes 16 = .ok (.aload_n 0, 1) := by decide +kernel
theorem dL_passes_17 : decode cL_passes 17 = .ok (.getfield 10, 3) := by decide +kernel
theorem dL_passes_20 : decode cL_passes 20 = .ok (.bipush 25, 2) := by decide +kernel
theorem dL_passes_22 : decode cL_passes 22 = .ok (.iconst 0, 1) := by decide +kernel
theorem dL_passes_23 : decode cL_passes 23 = .ok (.iconst 0, 1) := by decide +kernel
theorem dL_passes_24 : decode cL_passes 24 = .ok (.invokestatic 170, 3) := by decide +kernel
theorem dL_passes_27 : decode cL_passes 27 = .ok (.istore 4, 2) := by decide +kernel
theorem dL_passes_29 : decode cL_passes 29 = .ok (.aload_n 0, 1) := by decide +kernel
theorem dL_passes_30 : decode cL_passes 30 = .ok (.getfield 10, 3) := by decide +kernel
theorem dL_passes_33 : decode cL_passes 33 = .ok (.bipush 26, 2) := by decide +kernel
theorem dL_passes_35 : decode cL_passes 35 = .ok (.iconst 0, 1) := by decide +kernel
theorem dL_passes_36 : decode cL_passes 36 = .ok (.iconst 0, 1) := by decide +kernel
theorem dL_passes_37 : decode cL_passes 37 = .ok (.invokestatic 170, 3) := by decide +kernel
theorem dL_passes_40 : decode cL_passes 40 = .ok (.istore 5, 2) := by decide +kernel
theorem dL_passes_42 : decode cL_passes 42 = .ok (.aload_n 0, 1) := by decide +kernel
theorem dL_passes_43 : decode cL_passes 43 = .ok (.getfield 10, 3) := by decide +kernel
theorem dL_passes_46 : decode cL_passes 46 = .ok (.invokevirtual 167, 3) := by decide +kernel
theorem dL_passes_49 : decode cL_passes 49 = .ok (.istore 6, 2) := by decide +kernel
theorem dL_passes_51 : decode cL_passes 51 = .ok (.iconst 3, 1) := by decide +kernel
theorem dL_passes_52 : decode cL_passes 52 = .ok (.newarray .int, 2) := by decide +kernel
theorem dL_passes_54 : decode cL_passes 54 = .ok (.astore 7, 2) := by decide +kernel
theorem dL_passes_56 : decode cL_passes 56 = .ok (.bipush 6, 2) := by decide +kernel
theorem dL_passes_58 : decode cL_passes 58 = .ok (.newarray .int, 2) := by decide +kernel
theorem dL_passes_60 : decode cL_passes 60 = .ok (.astore 8, 2) := by decide +kernel
theorem dL_passes_62 : decode cL_passes 62 = .ok (.iconst 0, 1) := by decide +kernel
theorem dL_passes_63 : decode cL_passes 63 = .ok (.istore 9, 2) := by decide +kernel
theorem dL_passes_65 : decode cL_passes 65 = .ok (.iload 9, 2) := by decide +kernel
theorem dL_passes_67 : decode cL_passes 67 = .ok (.iconst 3, 1) := by decide +kernel
theorem dL_passes_68 : decode cL_passes 68 = .ok (.if_icmp .ge 26, 3) := by decide +kernel
theorem dL_passes_71 : decode cL_passes 71 = .ok (.aload 7, 2) := by decide +kernel
theorem dL_passes_73 : decode cL_passes 73 = .ok (.iload 9, 2) := by decide +kernel
theorem dL_passes_75 : decode cL_passes 75 = .ok (.aload_n 0, 1) := by decide +kernel
theorem dL_passes_76 : decode cL_passes 76 = .ok (.getfield 10, 3) := by decide +kernel
theorem dL_passes_79 : decode cL_passes 79 = .ok (.bipush 20, 2) := by decide +kernel
theorem dL_passes_81 : decode cL_passes 81 = .ok (.iload 9, 2) := by decide +kernel
theorem dL_passes_83 : decode cL_passes 83 = .ok (.iconst 0, 1) := by decide +kernel
theorem dL_passes_84 : decode cL_passes 84 = .ok (.invokestatic 170, 3) := by decide +kernel
theorem dL_passes_87 : decode cL_passes 87 = .ok (.iastore, 1) := by decide +kernel
theorem dL_passes_88 : decode cL_passes 88 = .ok (.iinc 9 1, 3) := by decide +kernel
theorem dL_passes_91 : decode cL_passes 91 = .ok (.goto (-26), 3) := by decide +kernel
theorem dL_passes_94 : decode cL_passes 94 = .ok (.iconst 0, 1) := by decide +kernel
theorem dL_passes_95 : decode cL_passes 95 = .ok (.istore 9, 2) := by decide +kernel
theorem dL_passes_97 : decode cL_passes 97 = .ok (.iload 9, 2) := by decide +kernel
theorem dL_passes_99 : decode cL_passes 99 = .ok (.bipush 6, 2) := by decide +kernel
theorem dL_passes_101 : decode cL_passes 101 = .ok (.if_icmp .ge 26, 3) := by decide +kernel
theorem dL_passes_104 : decode cL_passes 104 = .ok (.aload 8, 2) := by decide +kernel
theorem dL_passes_106 : decode cL_passes 106 = .ok (.iload 9, 2) := by decide +kernel
theorem dL_passes_108 : decode cL_passes 108 = .ok (.aload_n 0, 1) := by decide +kernel
theorem dL_passes_109 : decode cL_passes 109 = .ok (.getfield 10, 3) := by decide +kernel
theorem dL_passes_112 : decode cL_passes 112 = .ok (.bipush 23, 2) := by decide +kernel
theorem dL_passes_114 : decode cL_passes 114 = .ok (.iload 9, 2) := by decide +kernel
theorem dL_passes_116 : decode cL_passes 116 = .ok (.iconst 0, 1) := by decide +kernel
theorem dL_passes_117 : decode cL_passes 117 = .ok (.invokestatic 170, 3) := by decide +kernel
theorem dL_passes_120 : decode cL_passes 120 = .ok (.iastore, 1) := by decide +kernel
theorem dL_passes_121 : decode cL_passes 121 = .ok (.iinc 9 1, 3) := by decide +kernel
theorem dL_passes_124 : decode cL_passes 124 = .ok (.goto (-27), 3) := by decide +kernel
theorem dL_passes_127 : decode cL_passes 127 = .ok (.aload_n 0, 1) := by decide +kernel
theorem dL_passes_128 : decode cL_passes 128 = .ok (.getfield 10, 3) := by decide +kernel
theorem dL_passes_131 : decode cL_passes 131 = .ok (.bipush 17, 2) := by decide +kernel
theorem dL_passes_133 : decode cL_passes 133 = .ok (.iconst 1, 1) := by decide +kernel
theorem dL_passes_134 : decode cL_passes 134 = .ok (.iconst 0, 1) := by decide +kernel
theorem dL_passes_135 : decode cL_passes 135 = .ok (.invokestatic 170, 3) := by decide +kernel
theorem dL_passes_138 : decode cL_passes 138 = .ok (.iload_n 3, 1) := by decide +kernel
theorem dL_passes_139 : decode cL_passes 139 = .ok (.iconst 1, 1) := by decide +kernel
theorem dL_passes_140 : decode cL_passes 140 = .ok (.iadd, 1) := by decide +kernel
theorem dL_passes_141 : decode cL_passes 141 = .ok (.if_icmp .ne 16, 3) := by decide +kernel
theorem dL_passes_144 : decode cL_passes 144 = .ok (.aload_n 0, 1) := by decide +kernel
theorem dL_passes_145 : decode cL_passes 145 = .ok (.aload 7, 2) := by decide +kernel
theorem dL_passes_147 : decode cL_passes 147 = .ok (.invokevirtual 218, 3) := by decide +kernel
theorem dL_passes_150 : decode cL_passes 150 = .ok (.ifCond .eq 7, 3) := by decide +kernel
theorem dL_passes_153 : decode cL_passes 153 = .ok (.iconst 1, 1) := by decide +kernel
theorem dL_passes_154 : decode cL_passes 154 = .ok (.goto 4, 3) := by decide +kernel
theorem dL_passes_157 : decode cL_passes 157 = .ok (.iconst 0, 1) := by decide +kernel
theorem dL_passes_158 : decode cL_passes 158 = .ok (.istore 9, 2) := by decide +kernel
theorem dL_passes_160 : decode cL_passes 160 = .ok (.iconst 0, 1) := by decide +kernel
theorem dL_passes_161 : decode cL_passes 161 = .ok (.istore 10, 2) := by decide +kernel
theorem dL_passes_163 : decode cL_passes 163 = .ok (.iload 10, 2) := by decide +kernel
theorem dL_passes_165 : decode cL_passes 165 = .ok (.bipush 6, 2) := by decide +kernel
theorem dL_passes_167 : decode cL_passes 167 = .ok (.if_icmp .ge 52, 3) := by decide +kernel
theorem dL_passes_170 : decode cL_passes 170 = .ok (.aload_n 0, 1) := by decide +kernel
theorem dL_passes_171 : decode cL_passes 171 = .ok (.getfield 10, 3) := by decide +kernel
theorem dL_passes_174 : decode cL_passes 174 = .ok (.bipush 23, 2) := by decide +kernel
theorem dL_passes_176 : decode cL_passes 176 = .ok (.iload 10, 2) := by decide +kernel
theorem dL_passes_178 : decode cL_passes 178 = .ok (.iconst 0, 1) := by decide +kernel
theorem dL_passes_179 : decode cL_passes 179 = .ok (.invokestatic 170, 3) := by decide +kernel
theorem dL_passes_182 : decode cL_passes 182 = .ok (.istore 11, 2) := by decide +kernel
theorem dL_passes_184 : decode cL_passes 184 = .ok (.iload 9, 2) := by decide +kernel
theorem dL_passes_186 : decode cL_passes 186 = .ok (.ifCond .eq 24, 3) := by decide +kernel
theorem dL_passes_189 : decode cL_passes 189 = .ok (.iload 11, 2) := by decide +kernel
theorem dL_passes_191 : decode cL_passes 191 = .ok (.ifCond .eq 15, 3) := by decide +kernel
theorem dL_passes_194 : decode cL_passes 194 = .ok (.iload 11, 2) := by decide +kernel
theorem dL_passes_196 : decode cL_passes 196 = .ok (.aload 8, 2) := by decide +kernel
theorem dL_passes_198 : decode cL_passes 198 = .ok (.iload 10, 2) := by decide +kernel
theorem dL_passes_200 : decode cL_passes 200 = .ok (.iaload, 1) := by decide +kernel
theorem dL_passes_201 : decode cL_passes 201 = .ok (.iconst 1, 1) := by decide +kernel
theorem dL_passes_202 : decode cL_passes 202 = .ok (.iadd, 1) := by decide +kernel
theorem dL_passes_203 : decode cL_passes 203 = .ok (.if_icmp .ne 7, 3) := by decide +kernel
theorem dL_passes_206 : decode cL_passes 206 = .ok (.iconst 1, 1) := by decide +kernel
theorem dL_passes_207 : decode cL_passes 207 = .ok (.goto 4, 3) := by decide +kernel
theorem dL_passes_210 : decode cL_passes 210 = .ok (.iconst 0, 1) := by decide +kernel
theorem dL_passes_211 : decode cL_passes 211 = .ok (.istore 9, 2) := by decide +kernel
theorem dL_passes_213 : decode cL_passes 213 = .ok (.iinc 10 1, 3) := by decide +kernel
theorem dL_passes_216 : decode cL_passes 216 = .ok (.goto (-53), 3) := by decide +kernel
theorem dL_passes_219 : decode cL_passes 219 = .ok (.aload_n 0, 1) := by decide +kernel
theorem dL_passes_220 : decode cL_passes 220 = .ok (.getfield 10, 3) := by decide +kernel
theorem dL_passes_223 : decode cL_passes 223 = .ok (.invokevirtual 215, 3) := by decide +kernel
theorem dL_passes_226 : decode cL_passes 226 = .ok (.istore 10, 2) := by decide +kernel
theorem dL_passes_228 : decode cL_passes 228 = .ok (.iload 9, 2) := by decide +kernel
theorem dL_passes_230 : decode cL_passes 230 = .ok (.ifCond .eq 38, 3) := by decide +kernel
theorem dL_passes_233 : decode cL_passes 233 = .ok (.aload_n 0, 1) := by decide +kernel
theorem dL_passes_234 : decode cL_passes 234 = .ok (.getfield 10, 3) := by decide +kernel
theorem dL_passes_237 : decode cL_passes 237 = .ok (.invokevirtual 167, 3) := by decide +kernel
theorem dL_passes_240 : decode cL_passes 240 = .ok (.iload 6, 2) := by decide +kernel
theorem dL_passes_242 : decode cL_passes 242 = .ok (.if_icmp .le 7, 3) := by decide +kernel
theorem dL_passes_245 : decode cL_passes 245 = .ok (.iconst 1, 1) := by decide +kernel
theorem dL_passes_246 : decode cL_passes 246 = .ok (.goto 4, 3) := by decide +kernel
theorem dL_passes_249 : decode cL_passes 249 = .ok (.iconst 0, 1) := by decide +kernel
theorem dL_passes_250 : decode cL_passes 250 = .ok (.iload 10, 2) := by decide +kernel
theorem dL_passes_252 : decode cL_passes 252 = .ok (.iload_n 2, 1) := by decide +kernel
theorem dL_passes_253 : decode cL_passes 253 = .ok (.if_icmp .eq 7, 3) := by decide +kernel
theorem dL_passes_256 : decode cL_passes 256 = .ok (.iconst 1, 1) := by decide +kernel
theorem dL_passes_257 : decode cL_passes 257 = .ok (.goto 4, 3) := by decide +kernel
theorem dL_passes_260 : decode cL_passes 260 = .ok (.iconst 0, 1) := by decide +kernel
theorem dL_passes_261 : decode cL_passes 261 = .ok (.if_icmp .ne 7, 3) := by decide +kernel
theorem dL_passes_264 : decode cL_passes 264 = .ok (.iconst 1, 1) := by decide +kernel
theorem dL_passes_265 : decode cL_passes 265 = .ok (.goto 4, 3) := by decide +kernel
theorem dL_passes_268 : decode cL_passes 268 = .ok (.iconst 0, 1) := by decide +kernel
theorem dL_passes_269 : decode cL_passes 269 = .ok (.istore 9, 2) := by decide +kernel
theorem dL_passes_271 : decode cL_passes 271 = .ok (.iload_n 2, 1) := by decide +kernel
theorem dL_passes_272 : decode cL_passes 272 = .ok (.bipush 99, 2) := by decide +kernel
theorem dL_passes_274 : decode cL_passes 274 = .ok (.if_icmp .eq 59, 3) := by decide +kernel
theorem dL_passes_277 : decode cL_passes 277 = .ok (.iload_n 2, 1) := by decide +kernel
theorem dL_passes_278 : decode cL_passes 278 = .ok (.bipush 104, 2) := by decide +kernel
theorem dL_passes_280 : decode cL_passes 280 = .ok (.if_icmp .eq 53, 3) := by decide +kernel
theorem dL_passes_283 : decode cL_passes 283 = .ok (.iload 9, 2) := by decide +kernel
theorem dL_passes_285 : decode cL_passes 285 = .ok (.ifCond .eq 46, 3) := by decide +kernel
theorem dL_passes_288 : decode cL_passes 288 = .ok (.iload_n 2, 1) := by decide +kernel
theorem dL_passes_289 : decode cL_passes 289 = .ok (.bipush 102, 2) := by decide +kernel
theorem dL_passes_291 : decode cL_passes 291 = .ok (.if_icmp .eq 9, 3) := by decide +kernel
theorem dL_passes_294 : decode cL_passes 294 = .ok (.iload 10, 2) := by decide +kernel
theorem dL_passes_296 : decode cL_passes 296 = .ok (.iload_n 2, 1) := by decide +kernel
theorem dL_passes_297 : decode cL_passes 297 = .ok (.if_icmp .ne 34, 3) := by decide +kernel
theorem dL_passes_300 : decode cL_passes 300 = .ok (.iload_n 2, 1) := by decide +kernel
theorem dL_passes_301 : decode cL_passes 301 = .ok (.bipush 102, 2) := by decide +kernel
theorem dL_passes_303 : decode cL_passes 303 = .ok (.if_icmp .ne 24, 3) := by decide +kernel
theorem dL_passes_306 : decode cL_passes 306 = .ok (.iload 10, 2) := by decide +kernel
theorem dL_passes_308 : decode cL_passes 308 = .ok (.bipush 102, 2) := by decide +kernel
theorem dL_passes_310 : decode cL_passes 310 = .ok (.if_icmp .eq 17, 3) := by decide +kernel
theorem dL_passes_313 : decode cL_passes 313 = .ok (.iload 10, 2) := by decide +kernel
theorem dL_passes_315 : decode cL_passes 315 = .ok (.bipush 120, 2) := by decide +kernel
theorem dL_passes_317 : decode cL_passes 317 = .ok (.if_icmp .eq 10, 3) := by decide +kernel
theorem dL_passes_320 : decode cL_passes 320 = .ok (.iload 10, 2) := by decide +kernel
theorem dL_passes_322 : decode cL_passes 322 = .ok (.bipush 111, 2) := by decide +kernel
theorem dL_passes_324 : decode cL_passes 324 = .ok (.if_icmp .ne 7, 3) := by decide +kernel
theorem dL_passes_327 : decode cL_passes 327 = .ok (.iconst 1, 1) := by decide +kernel
theorem dL_passes_328 : decode cL_passes 328 = .ok (.goto 4, 3) := by decide +kernel
theorem dL_passes_331 : decode cL_passes 331 = .ok (.iconst 0, 1) := by decide +kernel
theorem dL_passes_332 : decode cL_passes 332 = .ok (.ireturn, 1) := by decide +kernel
theorem dL_passes_333 : decode cL_passes 333 = .ok (.aload_n 0, 1) := by decide +kernel
theorem dL_passes_334 : decode cL_passes 334 = .ok (.getfield 10, 3) := by decide +kernel
theorem dL_passes_337 : decode cL_passes 337 = .ok (.bipush 26, 2) := by decide +kernel
theorem dL_passes_339 : decode cL_passes 339 = .ok (.iconst 0, 1) := by decide +kernel
theorem dL_passes_340 : decode cL_passes 340 = .ok (.iconst 0, 1) := by decide +kernel
theorem dL_passes_341 : decode cL_passes 341 = .ok (.invokestatic 170, 3) := by decide +kernel
theorem dL_passes_344 : decode cL_passes 344 = .ok (.iload 5, 2) := by decide +kernel
theorem dL_passes_346 : decode cL_passes 346 = .ok (.iconst 1, 1) := by decide +kernel
theorem dL_passes_347 : decode cL_passes 347 = .ok (.iadd, 1) := by decide +kernel
theorem dL_passes_348 : decode cL_passes 348 = .ok (.if_icmp .ne 7, 3) := by decide +kernel
theorem dL_passes_351 : decode cL_passes 351 = .ok (.iconst 1, 1) := by decide +kernel
theorem dL_passes_352 : decode cL_passes 352 = .ok (.goto 4, 3) := by decide +kernel
theorem dL_passes_355 : decode cL_passes 355 = .ok (.iconst 0, 1) := by decide +kernel
theorem dL_passes_356 : decode cL_passes 356 = .ok (.istore 11, 2) := by decide +kernel
theorem dL_passes_358 : decode cL_passes 358 = .ok (.iload 10, 2) := by decide +kernel
theorem dL_passes_360 : decode cL_passes 360 = .ok (.bipush 104, 2) := by decide +kernel
theorem dL_passes_362 : decode cL_passes 362 = .ok (.if_icmp .ne 29, 3) := by decide +kernel
theorem dL_passes_365 : decode cL_passes 365 = .ok (.iload 9, 2) := by decide +kernel
theorem dL_passes_367 : decode cL_passes 367 = .ok (.ifCond .eq 22, 3) := by decide +kernel
theorem dL_passes_370 : decode cL_passes 370 = .ok (.iload 11, 2) := by decide +kernel
theorem dL_passes_372 : decode cL_passes 372 = .ok (.ifCond .eq 17, 3) := by decide +kernel
theorem dL_passes_375 : decode cL_passes 375 = .ok (.aload_n 0, 1) := by decide +kernel
theorem dL_passes_376 : decode cL_passes 376 = .ok (.aload_n 1, 1) := by decide +kernel
theorem dL_passes_377 : decode cL_passes 377 = .ok (.iload 4, 2) := by decide +kernel
theorem dL_passes_379 : decode cL_passes 379 = .ok (.invokevirtual 222, 3) := by decide +kernel
theorem dL_passes_382 : decode cL_passes 382 = .ok (.ifCond .eq 7, 3) := by decide +kernel
theorem dL_passes_385 : decode cL_passes 385 = .ok (.iconst 1, 1) := by decide +kernel
theorem dL_passes_386 : decode cL_passes 386 = .ok (.goto 4, 3) := by decide +kernel
theorem dL_passes_389 : decode cL_passes 389 = .ok (.iconst 0, 1) := by decide +kernel
theorem dL_passes_390 : decode cL_passes 390 = .ok (.ireturn, 1) := by decide +kernel
theorem dL_passes_391 : decode cL_passes 391 = .ok (.iload 10, 2) := by decide +kernel
theorem dL_passes_393 : decode cL_passes 393 = .ok (.bipush 115, 2) := by decide +kernel
theorem dL_passes_395 : decode cL_passes 395 = .ok (.if_icmp .ne 36, 3) := by decide +kernel
theorem dL_passes_398 : decode cL_passes 398 = .ok (.iload 9, 2) := by decide +kernel
theorem dL_passes_400 : decode cL_passes 400 = .ok (.ifCond .eq 29, 3) := by decide +kernel
theorem dL_passes_403 : decode cL_passes 403 = .ok (.iload_n 3, 1) := by decide +kernel
theorem dL_passes_404 : decode cL_passes 404 = .ok (.iconst 1, 1) := by decide +kernel
theorem dL_passes_405 : decode cL_passes 405 = .ok (.iadd, 1) := by decide +kernel
theorem dL_passes_406 : decode cL_passes 406 = .ok (.aload_n 0, 1) := by decide +kernel
theorem dL_passes_407 : decode cL_passes 407 = .ok (.getfield 10, 3) := by decide +kernel
theorem dL_passes_410 : decode cL_passes 410 = .ok (.bipush 25, 2) := by decide +kernel
theorem dL_passes_412 : decode cL_passes 412 = .ok (.iconst 0, 1) := by decide +kernel
theorem dL_passes_413 : decode cL_passes 413 = .ok (.iconst 0, 1) := by decide +kernel
theorem dL_passes_414 : decode cL_passes 414 = .ok (.invokestatic 170, 3) := by decide +kernel
theorem dL_passes_417 : decode cL_passes 417 = .ok (.isub, 1) := by decide +kernel
theorem dL_passes_418 : decode cL_passes 418 = .ok (.aload_n 0, 1) := by decide +kernel
theorem dL_passes_419 : decode cL_passes 419 = .ok (.getfield 226, 3) := by decide +kernel
theorem dL_passes_422 : decode cL_passes 422 = .ok (.if_icmp .le 7, 3) := by decide +kernel
theorem dL_passes_425 : decode cL_passes 425 = .ok (.iconst 1, 1) := by decide +kernel
theorem dL_passes_426 : decode cL_passes 426 = .ok (.goto 4, 3) := by decide +kernel
theorem dL_passes_429 : decode cL_passes 429 = .ok (.iconst 0, 1) := by decide +kernel
theorem dL_passes_430 : decode cL_passes 430 = .ok (.ireturn, 1) := by decide +kernel
theorem dL_passes_431 : decode cL_passes 431 = .ok (.iload 9, 2) := by decide +kernel
theorem dL_passes_433 : decode cL_passes 433 = .ok (.ifCond .eq 57, 3) := by decide +kernel
theorem dL_passes_436 : decode cL_passes 436 = .ok (.iload 11, 2) := by decide +kernel
theorem dL_passes_438 : decode cL_passes 438 = .ok (.ifCond .ne 52, 3) := by decide +kernel
theorem dL_passes_441 : decode cL_passes 441 = .ok (.aload_n 0, 1) := by decide +kernel
theorem dL_passes_442 : decode cL_passes 442 = .ok (.aload_n 1, 1) := by decide +kernel
theorem dL_passes_443 : decode cL_passes 443 = .ok (.iload 4, 2) := by decide +kernel
theorem dL_passes_445 : decode cL_passes 445 = .ok (.invokevirtual 205, 3) := by decide +kernel
theorem dL_passes_448 : decode cL_passes 448 = .ok (.bipush 6, 2) := by decide +kernel
theorem dL_passes_450 : decode cL_passes 450 = .ok (.if_icmp .ne 40, 3) := by decide +kernel
theorem dL_passes_453 : decode cL_passes 453 = .ok (.aload_n 0, 1) := by decide +kernel
theorem dL_passes_454 : decode cL_passes 454 = .ok (.getfield 10, 3) := by decide +kernel
theorem dL_passes_457 : decode cL_passes 457 = .ok (.bipush 25, 2) := by decide +kernel
theorem dL_passes_459 : decode cL_passes 459 = .ok (.iconst 0, 1) := by decide +kernel
theorem dL_passes_460 : decode cL_passes 460 = .ok (.iconst 0, 1) := by decide +kernel
theorem dL_passes_461 : decode cL_passes 461 = .ok (.invokestatic 170, 3) := by decide +kernel
theorem dL_passes_464 : decode cL_passes 464 = .ok (.iload 4, 2) := by decide +kernel
theorem dL_passes_466 : decode cL_passes 466 = .ok (.iconst 1, 1) := by decide +kernel
theorem dL_passes_467 : decode cL_passes 467 = .ok (.iadd, 1) := by decide +kernel
theorem dL_passes_468 : decode cL_passes 468 = .ok (.if_icmp .ne 22, 3) := by decide +kernel
theorem dL_passes_471 : decode cL_passes 471 = .ok (.iload_n 3, 1) := by decide +kernel
theorem dL_passes_472 : decode cL_passes 472 = .ok (.iconst 1, 1) := by decide +kernel
theorem dL_passes_473 : decode cL_passes 473 = .ok (.iadd, 1) := by decide +kernel
theorem dL_passes_474 : decode cL_passes 474 = .ok (.iload 4, 2) := by decide +kernel
theorem dL_passes_476 : decode cL_passes 476 = .ok (.iconst 1, 1) := by decide +kernel
theorem dL_passes_477 : decode cL_passes 477 = .ok (.iadd, 1) := by decide +kernel
theorem dL_passes_478 : decode cL_passes 478 = .ok (.isub, 1) := by decide +kernel
theorem dL_passes_479 : decode cL_passes 479 = .ok (.aload_n 0, 1) := by decide +kernel
theorem dL_passes_480 : decode cL_passes 480 = .ok (.getfield 226, 3) := by decide +kernel
theorem dL_passes_483 : decode cL_passes 483 = .ok (.if_icmp .gt 7, 3) := by decide +kernel
theorem dL_passes_486 : decode cL_passes 486 = .ok (.iconst 1, 1) := by decide +kernel
theorem dL_passes_487 : decode cL_passes 487 = .ok (.goto 4, 3) := by decide +kernel
theorem dL_passes_490 : decode cL_passes 490 = .ok (.iconst 0, 1) := by decide +kernel
theorem dL_passes_491 : decode cL_passes 491 = .ok (.istore 9, 2) := by decide +kernel
theorem dL_passes_493 : decode cL_passes 493 = .ok (.iload 9, 2) := by decide +kernel
theorem dL_passes_495 : decode cL_passes 495 = .ok (.ifCond .eq 56, 3) := by decide +kernel
theorem dL_passes_498 : decode cL_passes 498 = .ok (.iload 10, 2) := by decide +kernel
theorem dL_passes_500 : decode cL_passes 500 = .ok (.bipush 102, 2) := by decide +kernel
theorem dL_passes_502 : decode cL_passes 502 = .ok (.if_icmp .ne 32, 3) := by decide +kernel
theorem dL_passes_505 : decode cL_passes 505 = .ok (.iload 4, 2) := by decide +kernel
theorem dL_passes_507 : decode cL_passes 507 = .ok (.iconst (-1), 1) := by decide +kernel
theorem dL_passes_508 : decode cL_passes 508 = .ok (.if_icmp .ne 43, 3) := by decide +kernel
theorem dL_passes_511 : decode cL_passes 511 = .ok (.iload_n 3, 1) := by decide +kernel
theorem dL_passes_512 : decode cL_passes 512 = .ok (.iconst 1, 1) := by decide +kernel
theorem dL_passes_513 : decode cL_passes 513 = .ok (.iadd, 1) := by decide +kernel
theorem dL_passes_514 : decode cL_passes 514 = .ok (.aload_n 0, 1) := by decide +kernel
theorem dL_passes_515 : decode cL_passes 515 = .ok (.getfield 211, 3) := by decide +kernel
theorem dL_passes_518 : decode cL_passes 518 = .ok (.if_icmp .lt 33, 3) := by decide +kernel
theorem dL_passes_521 : decode cL_passes 521 = .ok (.iload_n 3, 1) := by decide +kernel
theorem dL_passes_522 : decode cL_passes 522 = .ok (.iconst 1, 1) := by decide +kernel
theorem dL_passes_523 : decode cL_passes 523 = .ok (.iadd, 1) := by decide +kernel
theorem dL_passes_524 : decode cL_passes 524 = .ok (.aload_n 0, 1) := by decide +kernel
theorem dL_passes_525 : decode cL_passes 525 = .ok (.getfield 226, 3) := by decide +kernel
theorem dL_passes_528 : decode cL_passes 528 = .ok (.if_icmp .gt 23, 3) := by decide +kernel
theorem dL_passes_531 : decode cL_passes 531 = .ok (.goto 16, 3) := by decide +kernel
theorem dL_passes_534 : decode cL_passes 534 = .ok (.iload 10, 2) := by decide +kernel
theorem dL_passes_536 : decode cL_passes 536 = .ok (.bipush 99, 2) := by decide +kernel
theorem dL_passes_538 : decode cL_passes 538 = .ok (.if_icmp .ne 13, 3) := by decide +kernel
theorem dL_passes_541 : decode cL_passes 541 = .ok (.iload 4, 2) := by decide +kernel
theorem dL_passes_543 : decode cL_passes 543 = .ok (.iconst (-1), 1) := by decide +kernel
theorem dL_passes_544 : decode cL_passes 544 = .ok (.if_icmp .ge 7, 3) := by decide +kernel
theorem dL_passes_547 : decode cL_passes 547 = .ok (.iconst 1, 1) := by decide +kernel
theorem dL_passes_548 : decode cL_passes 548 = .ok (.goto 4, 3) := by decide +kernel
theorem dL_passes_551 : decode cL_passes 551 = .ok (.iconst 0, 1) := by decide +kernel
theorem dL_passes_552 : decode cL_passes 552 = .ok (.ireturn, 1) := by decide +kernel
theorem dL_areStepsRight_0 : decode cL_areStepsRight 0 = .ok (.iconst 1, 1) := by decide +kernel
theorem dL_areStepsRight_1 : decode cL_areStepsRight 1 = .ok (.istore_n 2, 1) := by decide +kernel
theorem dL_areStepsRight_2 : decode cL_areStepsRight 2 = .ok (.iconst 0, 1) := by decide +kernel
theorem dL_areStepsRight_3 : decode cL_areStepsRight 3 = .ok (.istore_n 3, 1) := by decide +kernel
theorem dL_areStepsRight_4 : decode cL_areStepsRight 4 = .ok (.iload_n 3, 1) := by decide +kernel
theorem dL_areStepsRight_5 : decode cL_areStepsRight 5 = .ok (.iconst 5, 1) := by decide +kernel
theorem dL_areStepsRight_6 : decode cL_areStepsRight 6 = .ok (.if_icmp .ge 98, 3) := by decide +kernel
theorem dL_areStepsRight_9 : decode cL_areStepsRight 9 = .ok (.aload_n 0, 1) := by decide +kernel
theorem dL_areStepsRight_10 : decode cL_areStepsRight 10 = .ok (.getfield 229, 3) := by decide +kernel
theorem dL_areStepsRight_13 : decode cL_areStepsRight 13 = .ok (.ifCond .ne 91, 3) := by decide +kernel
theorem dL_areStepsRight_16 : decode cL_areStepsRight 16 = .ok (.aload_n 0, 1) := by decide +kernel
theorem dL_areStepsRight_17 : decode cL_areStepsRight 17 = .ok (.getfield 10, 3) := by decide +kernel
theorem dL_areStepsRight_20 : decode cL_areStepsRight 20 = .ok (.bipush 21, 2) := by decide +kernel
theorem dL_areStepsRight_22 : decode cL_areStepsRight 22 = .ok (.iload_n 3, 1) := by decide +kernel
theorem dL_areStepsRight_23 : decode cL_areStepsRight 23 = .ok (.iconst 0, 1) := by decide +kernel
theorem dL_areStepsRight_24 : decode cL_areStepsRight 24 = .ok (.invokestatic 170, 3) := by decide +kernel
theorem dL_areStepsRight_27 : decode cL_areStepsRight 27 = .ok (.istore 4, 2) := by decide +kernel
theorem dL_areStepsRight_29 : decode cL_areStepsRight 29 = .ok (.iload_n 3, 1) := by decide +kernel
theorem dL_areStepsRight_30 : decode cL_areStepsRight 30 = .ok (.ifCond .le 19, 3) := by decide +kernel
theorem dL_areStepsRight_33 : decode cL_areStepsRight 33 = .ok (.aload_n 1, 1) := by decide +kernel
theorem dL_areStepsRight_34 : decode cL_areStepsRight 34 = .ok (.bipush 19, 2) := by decide +kernel
theorem dL_areStepsRight_36 : decode cL_areStepsRight 36 = .ok (.iload_n 3, 1) := by decide +kernel
theorem dL_areStepsRight_37 : decode cL_areStepsRight 37 = .ok (.iadd, 1) := by decide +kernel
theorem dL_areStepsRight_38 : decode cL_areStepsRight 38 = .ok (.iconst 2, 1) := by decide +kernel
theorem dL_areStepsRight_39 : decode cL_areStepsRight 39 = .ok (.invokestatic 182, 3) := by decide +kernel
theorem dL_areStepsRight_42 : decode cL_areStepsRight 42 = .ok (.ifCond .ne 7, 3) := by decide +kernel
theorem dL_areStepsRight_45 : decode cL_areStepsRight 45 = .ok (.iconst 1, 1) := by decide +kernel
theorem dL_areStepsRight_46 : decode cL_areStepsRight 46 = .ok (.goto 4, 3) := by decide +kernel
theorem dL_areStepsRight_49 : decode cL_areStepsRight 49 = .ok (.iconst 0, 1) := by decide +kernel
theorem dL_areStepsRight_50 : decode cL_areStepsRight 50 = .ok (.istore 5, 2) := by decide +kernel
theorem dL_areStepsRight_52 : decode cL_areStepsRight 52 = .ok (.iload_n 2, 1) := by decide +kernel
theorem dL_areStepsRight_53 : decode cL_areStepsRight 53 = .ok (.ifCond .eq 43, 3) := by decide +kernel
theorem dL_areStepsRight_56 : decode cL_areStepsRight 56 = .ok (.iload 4, 2) := by decide +kernel
theorem dL_areStepsRight_58 : decode cL_areStepsRight 58 = .ok (.bipush 45, 2) := by decide +kernel
theorem dL_areStepsRight_60 : decode cL_areStepsRight 60 = .ok (.if_icmp .eq 32, 3) := by decide +kernel
theorem dL_areStepsRight_63 : decode cL_areStepsRight 63 = .ok (.iload 5, 2) := by decide +kernel
theorem dL_areStepsRight_65 : decode cL_areStepsRight 65 = .ok (.ifCond .eq 27, 3) := by decide +kernel
theorem dL_areStepsRight_68 : decode cL_areStepsRight 68 = .ok (.aload_n 0, 1) := by decide +kernel
theorem dL_areStepsRight_69 : decode cL_areStepsRight 69 = .ok (.getfield 10, 3) := by decide +kernel
theorem dL_areStepsRight_72 : decode cL_areStepsRight 72 = .ok (.bipush 21, 2) := by decide +kernel
theorem dL_areStepsRight_74 : decode cL_areStepsRight 74 = .ok (.aload_n 1, 1) := by decide +kernel
theorem dL_areStepsRight_75 : decode cL_areStepsRight 75 = .ok (.bipush 24, 2) := by decide +kernel
theorem dL_areStepsRight_77 : decode cL_areStepsRight 77 = .ok (.iload_n 3, 1) := by decide +kernel
theorem dL_areStepsRight_78 : decode cL_areStepsRight 78 = .ok (.iadd, 1) := by decide +kernel
theorem dL_areStepsRight_79 : decode cL_areStepsRight 79 = .ok (.iload_n 3, 1) := by decide +kernel
theorem dL_areStepsRight_80 : decode cL_areStepsRight 80 = .ok (.invokestatic 182, 3) := by decide +kernel
theorem dL_areStepsRight_83 : decode cL_areStepsRight 83 = .ok (.iconst 0, 1) := by decide +kernel
theorem dL_areStepsRight_84 : decode cL_areStepsRight 84 = .ok (.invokestatic 170, 3) := by decide +kernel
theorem dL_areStepsRight_87 : decode cL_areStepsRight 87 = .ok (.bipush 101, 2) := by decide +kernel
theorem dL_areStepsRight_89 : decode cL_areStepsRight 89 = .ok (.if_icmp .ne 7, 3) := by decide +kernel
theorem dL_areStepsRight_92 : decode cL_areStepsRight 92 = .ok (.iconst 1, 1) := by decide +kernel
theorem dL_areStepsRight_93 : decode cL_areStepsRight 93 = .ok (.goto 4, 3) := by decide +kernel
theorem dL_areStepsRight_96 : decode cL_areStepsRight 96 = .ok (.iconst 0, 1) := by decide +kernel
theorem dL_areStepsRight_97 : decode cL_areStepsRight 97 = .ok (.istore_n 2, 1) := by decide +kernel
theorem dL_areStepsRight_98 : decode cL_areStepsRight 98 = .ok (.iinc 3 1, 3) := by decide +kernel
theorem dL_areStepsRight_101 : decode cL_areStepsRight 101 = .ok (.goto (-97), 3) := by decide +kernel
theorem dL_areStepsRight_104 : decode cL_areStepsRight 104 = .ok (.iload_n 2, 1) := by decide +kernel
theorem dL_areStepsRight_105 : decode cL_areStepsRight 105 = .ok (.ireturn, 1) := by decide +kernel
theorem dL_begins_0 : decode cL_begins 0 = .ok (.bipush (-10), 2) := by decide +kernel
theorem dL_begins_2 : decode cL_begins 2 = .ok (.aload_n 1, 1) := by decide +kernel
theorem dL_begins_3 : decode cL_begins 3 = .ok (.iload_n 2, 1) := by decide +kernel
theorem dL_begins_4 : decode cL_begins 4 = .ok (.bipush 12, 2) := by decide +kernel
theorem dL_begins_6 : decode cL_begins 6 = .ok (.invokestatic 182, 3) := by decide +kernel
theorem dL_begins_9 : decode cL_begins 9 = .ok (.isub, 1) := by decide +kernel
theorem dL_begins_10 : decode cL_begins 10 = .ok (.istore_n 3, 1) := by decide +kernel
theorem dL_begins_11 : decode cL_begins 11 = .ok (.aload_n 1, 1) := by decide +kernel
theorem dL_begins_12 : decode cL_begins 12 = .ok (.iload_n 2, 1) := by decide +kernel
theorem dL_begins_13 : decode cL_begins 13 = .ok (.iconst 1, 1) := by decide +kernel
theorem dL_begins_14 : decode cL_begins 14 = .ok (.iadd, 1) := by decide +kernel
theorem dL_begins_15 : decode cL_begins 15 = .ok (.bipush 30, 2) := by decide +kernel
theorem dL_begins_17 : decode cL_begins 17 = .ok (.invokestatic 182, 3) := by decide +kernel
theorem dL_begins_20 : decode cL_begins 20 = .ok (.istore 4, 2) := by decide +kernel
theorem dL_begins_22 : decode cL_begins 22 = .ok (.iload 4, 2) := by decide +kernel
theorem dL_begins_24 : decode cL_begins 24 = .ok (.aload_n 1, 1) := by decide +kernel
theorem dL_begins_25 : decode cL_begins 25 = .ok (.iload_n 2, 1) := by decide +kernel
theorem dL_begins_26 : decode cL_begins 26 = .ok (.iconst 2, 1) := by decide +kernel
theorem dL_begins_27 : decode cL_begins 27 = .ok (.iadd, 1) := by decide +kernel
theorem dL_begins_28 : decode cL_begins 28 = .ok (.bipush 40, 2) := by decide +kernel
theorem dL_begins_30 : decode cL_begins 30 = .ok (.invokestatic 182, 3) := by decide +kernel
theorem dL_begins_33 : decode cL_begins 33 = .ok (.iadd, 1) := by decide +kernel
theorem dL_begins_34 : decode cL_begins 34 = .ok (.istore 5, 2) := by decide +kernel
theorem dL_begins_36 : decode cL_begins 36 = .ok (.aload_n 0, 1) := by decide +kernel
theorem dL_begins_37 : decode cL_begins 37 = .ok (.getfield 10, 3) := by decide +kernel
theorem dL_begins_40 : decode cL_begins 40 = .ok (.bipush 15, 2) := by decide +kernel
theorem dL_begins_42 : decode cL_begins 42 = .ok (.iload_n 3, 1) := by decide +kernel
theorem dL_begins_43 : decode cL_begins 43 = .ok (.iload 4, 2) := by decide +kernel
theorem dL_begins_45 : decode cL_begins 45 = .ok (.iload 5, 2) := by decide +kernel
theorem dL_begins_47 : decode cL_begins 47 = .ok (.iconst 0, 1) := by decide +kernel
theorem dL_begins_48 : decode cL_begins 48 = .ok (.iconst 0, 1) := by decide +kernel
theorem dL_begins_49 : decode cL_begins 49 = .ok (.invokestatic 161, 3) := by decide +kernel
theorem dL_begins_52 : decode cL_begins 52 = .ok (.istore 6, 2) := by decide +kernel
theorem dL_begins_54 : decode cL_begins 54 = .ok (.iload 6, 2) := by decide +kernel
theorem dL_begins_56 : decode cL_begins 56 = .ok (.sipush (-20003), 3) := by decide +kernel
theorem dL_begins_59 : decode cL_begins 59 = .ok (.if_icmp .eq 62, 3) := by decide +kernel
theorem dL_begins_62 : decode cL_begins 62 = .ok (.aload_n 0, 1) := by decide +kernel
theorem dL_begins_63 : decode cL_begins 63 = .ok (.iconst 0, 1) := by decide +kernel
theorem dL_begins_64 : decode cL_begins 64 = .ok (.putfield 229, 3) := by decide +kernel
theorem dL_begins_67 : decode cL_begins 67 = .ok (.aload_n 0, 1) := by decide +kernel
theorem dL_begins_68 : decode cL_begins 68 = .ok (.aload_n 0, 1) := by decide +kernel
theorem dL_begins_69 : decode cL_begins 69 = .ok (.getfield 10, 3) := by decide +kernel
theorem dL_begins_72 : decode cL_begins 72 = .ok (.invokevirtual 208, 3) := by decide +kernel
theorem dL_begins_75 : decode cL_begins 75 = .ok (.iload 4, 2) := by decide +kernel
theorem dL_begins_77 : decode cL_begins 77 = .ok (.iadd, 1) := by decide +kernel
theorem dL_begins_78 : decode cL_begins 78 = .ok (.putfield 211, 3) := by decide +kernel
theorem dL_begins_81 : decode cL_begins 81 = .ok (.aload_n 0, 1) := by decide +kernel
theorem dL_begins_82 : decode cL_begins 82 = .ok (.aload_n 0, 1) := by decide +kernel
theorem dL_begins_83 : decode cL_begins 83 = .ok (.getfield 10, 3) := by decide +kernel
theorem dL_begins_86 : decode cL_begins 86 = .ok (.invokevirtual 208, 3) := by decide +kernel
theorem dL_begins_89 : decode cL_begins 89 = .ok (.iload 5, 2) := by decide +kernel
theorem dL_begins_91 : decode cL_begins 91 = .ok (.iadd, 1) := by decide +kernel
theorem dL_begins_92 : decode cL_begins 92 = .ok (.putfield 226, 3) := by decide +kernel
theorem dL_begins_95 : decode cL_begins 95 = .ok (.iconst 0, 1) := by decide +kernel
theorem dL_begins_96 : decode cL_begins 96 = .ok (.istore 7, 2) := by decide +kernel
theorem dL_begins_98 : decode cL_begins 98 = .ok (.iload 7, 2) := by decide +kernel
theorem dL_begins_100 : decode cL_begins 100 = .ok (.bipush 6, 2) := by decide +kernel
theorem dL_begins_102 : decode cL_begins 102 = .ok (.if_icmp .ge 19, 3) := by decide +kernel
theorem dL_begins_105 : decode cL_begins 105 = .ok (.aload_n 0, 1) := by decide +kernel
theorem dL_begins_106 : decode cL_begins 106 = .ok (.getfield 16, 3) := by decide +kernel
theorem dL_begins_109 : decode cL_begins 109 = .ok (.iload 7, 2) := by decide +kernel
theorem dL_begins_111 : decode cL_begins 111 = .ok (.sipush (-9999), 3) := by decide +kernel
theorem dL_begins_114 : decode cL_begins 114 = .ok (.iastore, 1) := by decide +kernel
theorem dL_begins_115 : decode cL_begins 115 = .ok (.iinc 7 1, 3) := by decide +kernel
theorem dL_begins_118 : decode cL_begins 118 = .ok (.goto (-20), 3) := by decide +kernel
theorem dL_begins_121 : decode cL_begins 121 = .ok (.iload 6, 2) := by decide +kernel
theorem dL_begins_123 : decode cL_begins 123 = .ok (.sipush (-20003), 3) := by decide +kernel
theorem dL_begins_126 : decode cL_begins 126 = .ok (.if_icmp .eq 43, 3) := by decide +kernel
theorem dL_begins_129 : decode cL_begins 129 = .ok (.iload 6, 2) := by decide +kernel
theorem dL_begins_131 : decode cL_begins 131 = .ok (.aload_n 0, 1) := by decide +kernel
theorem dL_begins_132 : decode cL_begins 132 = .ok (.getfield 10, 3) := by decide +kernel
theorem dL_begins_135 : decode cL_begins 135 = .ok (.invokevirtual 208, 3) := by decide +kernel
theorem dL_begins_138 : decode cL_begins 138 = .ok (.iload_n 3, 1) := by decide +kernel
theorem dL_begins_139 : decode cL_begins 139 = .ok (.isub, 1) := by decide +kernel
theorem dL_begins_140 : decode cL_begins 140 = .ok (.if_icmp .ne 33, 3) := by decide +kernel
theorem dL_begins_143 : decode cL_begins 143 = .ok (.aload_n 0, 1) := by decide +kernel
theorem dL_begins_144 : decode cL_begins 144 = .ok (.getfield 10, 3) := by decide +kernel
theorem dL_begins_147 : decode cL_begins 147 = .ok (.invokevirtual 215, 3) := by decide +kernel
theorem dL_begins_150 : decode cL_begins 150 = .ok (.bipush 99, 2) := by decide +kernel
theorem dL_begins_152 : decode cL_begins 152 = .ok (.if_icmp .ne 21, 3) := by decide +kernel
theorem dL_begins_155 : decode cL_begins 155 = .ok (.aload_n 0, 1) := by decide +kernel
theorem dL_begins_156 : decode cL_begins 156 = .ok (.getfield 10, 3) := by decide +kernel
theorem dL_begins_159 : decode cL_begins 159 = .ok (.bipush 26, 2) := by decide +kernel
theorem dL_begins_161 : decode cL_begins 161 = .ok (.iconst 0, 1) := by decide +kernel
theorem dL_begins_162 : decode cL_begins 162 = .ok (.iconst 0, 1) := by decide +kernel
theorem dL_begins_163 : decode cL_begins 163 = .ok (.invokestatic 170, 3) := by decide +kernel
theorem dL_begins_166 : decode cL_begins 166 = .ok (.ifCond .ne 7, 3) := by decide +kernel
theorem dL_begins_169 : decode cL_begins 169 = .ok (.iconst 1, 1) := by decide +kernel
theorem dL_begins_170 : decode cL_begins 170 = .ok (.goto 4, 3) := by decide +kernel
theorem dL_begins_173 : decode cL_begins 173 = .ok (.iconst 0, 1) := by decide +kernel
theorem dL_begins_174 : decode cL_begins 174 = .ok (.ireturn, 1) := by decide +kernel
theorem dL_happens_0 : decode cL_happens 0 = .ok (.aload_n 1, 1) := by decide +kernel
theorem dL_happens_1 : decode cL_happens 1 = .ok (.iload_n 2, 1) := by decide +kernel
theorem dL_happens_2 : decode cL_happens 2 = .ok (.iconst 1, 1) := by decide +kernel
theorem dL_happens_3 : decode cL_happens 3 = .ok (.iadd, 1) := by decide +kernel
theorem dL_happens_4 : decode cL_happens 4 = .ok (.bipush 9, 2) := by decide +kernel
theorem dL_happens_6 : decode cL_happens 6 = .ok (.invokestatic 182, 3) := by decide +kernel
theorem dL_happens_9 : decode cL_happens 9 = .ok (.istore_n 3, 1) := by decide +kernel
theorem dL_happens_10 : decode cL_happens 10 = .ok (.aload_n 1, 1) := by decide +kernel
theorem dL_happens_11 : decode cL_happens 11 = .ok (.iload_n 2, 1) := by decide +kernel
theorem dL_happens_12 : decode cL_happens 12 = .ok (.bipush 12, 2) := by decide +kernel
theorem dL_happens_14 : decode cL_happens 14 = .ok (.invokestatic 182, 3) := by decide +kernel
theorem dL_happens_17 : decode cL_happens 17 = .ok (.tableswitch 810 0 9 #[55, 117, 168, 222, 337, 415, 495, 504, 657, 714], 55) := by decide +kernel
theorem dL_happens_72 : decode cL_happens 72 = .ok (.aload_n 0, 1) := by decide +kernel
theorem dL_happens_73 : decode cL_happens 73 = .ok (.getfield 10, 3) := by decide +kernel
theorem dL_happens_76 : decode cL_happens 76 = .ok (.bipush 6, 2) := by decide +kernel
theorem dL_happens_78 : decode cL_happens 78 = .ok (.iload_n 3, 1) := by decide +kernel
theorem dL_happens_79 : decode cL_happens 79 = .ok (.aload_n 1, 1) := by decide +kernel
theorem dL_happens_80 : decode cL_happens 80 = .ok (.iload_n 2, 1) := by decide +kernel
theorem dL_happens_81 : decode cL_happens 81 = .ok (.iconst 2, 1) := by decide +kernel
theorem dL_happens_82 : decode cL_happens 82 = .ok (.iadd, 1) := by decide +kernel
theorem dL_happens_83 : decode cL_happens 83 = .ok (.sipush 900, 3) := by decide +kernel
theorem dL_happens_86 : decode cL_happens 86 = .ok (.invokestatic 182, 3) := by decide +kernel
theorem dL_happens_89 : decode cL_happens 89 = .ok (.bipush 20, 2) := by decide +kernel
theorem dL_happens_91 : decode cL_happens 91 = .ok (.isub, 1) := by decide +kernel
theorem dL_happens_92 : decode cL_happens 92 = .ok (.invokestatic 170, 3) := by decide +kernel
theorem dL_happens_95 : decode cL_happens 95 = .ok (.pop, 1) := by decide +kernel
theorem dL_happens_96 : decode cL_happens 96 = .ok (.aload_n 0, 1) := by decide +kernel
theorem dL_happens_97 : decode cL_happens 97 = .ok (.getfield 10, 3) := by decide +kernel
theorem dL_happens_100 : decode cL_happens 100 = .ok (.bipush 7, 2) := by decide +kernel
theorem dL_happens_102 : decode cL_happens 102 = .ok (.aload_n 1, 1) := by decide +kernel
theorem dL_happens_103 : decode cL_happens 103 = .ok (.iload_n 2, 1) := by decide +kernel
theorem dL_happens_104 : decode cL_happens 104 = .ok (.iconst 3, 1) := by decide +kernel
theorem dL_happens_105 : decode cL_happens 105 = .ok (.iadd, 1) := by decide +kernel
theorem dL_happens_106 : decode cL_happens 106 = .ok (.bipush 9, 2) := by decide +kernel
theorem dL_happens_108 : decode cL_happens 108 = .ok (.invokestatic 182, 3) := by decide +kernel
theorem dL_happens_111 : decode cL_happens 111 = .ok (.aload_n 1, 1) := by decide +kernel
theorem dL_happens_112 : decode cL_happens 112 = .ok (.iload_n 2, 1) := by decide +kernel
theorem dL_happens_113 : decode cL_happens 113 = .ok (.iconst 4, 1) := by decide +kernel
theorem dL_happens_114 : decode cL_happens 114 = .ok (.iadd, 1) := by decide +kernel
theorem dL_happens_115 : decode cL_happens 115 = .ok (.iconst 2, 1) := by decide +kernel
theorem dL_happens_116 : decode cL_happens 116 = .ok (.invokestatic 182, 3) := by decide +kernel
theorem dL_happens_119 : decode cL_happens 119 = .ok (.invokestatic 170, 3) := by decide +kernel
theorem dL_happens_122 : decode cL_happens 122 = .ok (.sipush (-20002), 3) := by decide +kernel
theorem dL_happens_125 : decode cL_happens 125 = .ok (.if_icmp .eq 7, 3) := by decide +kernel
theorem dL_happens_128 : decode cL_happens 128 = .ok (.iconst 1, 1) := by decide +kernel
theorem dL_happens_129 : decode cL_happens 129 = .ok (.goto 4, 3) := by decide +kernel
theorem dL_happens_132 : decode cL_happens 132 = .ok (.iconst 0, 1) := by decide +kernel
theorem dL_happens_133 : decode cL_happens 133 = .ok (.ireturn, 1) := by decide +kernel
theorem dL_happens_134 : decode cL_happens 134 = .ok (.aload_n 0, 1) := by decide +kernel
theorem dL_happens_135 : decode cL_happens 135 = .ok (.getfield 10, 3) := by decide +kernel
theorem dL_happens_138 : decode cL_happens 138 = .ok (.bipush 8, 2) := by decide +kernel
theorem dL_happens_140 : decode cL_happens 140 = .ok (.aload_n 1, 1) := by decide +kernel
theorem dL_happens_141 : decode cL_happens 141 = .ok (.iload_n 2, 1) := by decide +kernel
theorem dL_happens_142 : decode cL_happens 142 = .ok (.iconst 2, 1) := by decide +kernel
theorem dL_happens_143 : decode cL_happens 143 = .ok (.iadd, 1) := by decide +kernel
theorem dL_happens_144 : decode cL_happens 144 = .ok (.sipush 201, 3) := by decide +kernel
theorem dL_happens_147 : decode cL_happens 147 = .ok (.invokestatic 182, 3) := by decide +kernel
theorem dL_happens_150 : decode cL_happens 150 = .ok (.iconst 0, 1) := by decide +kernel
theorem dL_happens_151 : decode cL_happens 151 = .ok (.invokestatic 170, 3) := by decide +kernel
theorem dL_happens_154 : decode cL_happens 154 = .ok (.ifCond .lt 29, 3) := by decide +kernel
theorem dL_happens_157 : decode cL_happens 157 = .ok (.aload_n 0, 1) := by decide +kernel
theorem dL_happens_158 : decode cL_happens 158 = .ok (.getfield 10, 3) := by decide +kernel
theorem dL_happens_161 : decode cL_happens 161 = .ok (.bipush 9, 2) := by decide +kernel
theorem dL_happens_163 : decode cL_happens 163 = .ok (.aload_n 1, 1) := by decide +kernel
theorem dL_happens_164 : decode cL_happens 164 = .ok (.iload_n 2, 1) := by decide +kernel
theorem dL_happens_165 : decode cL_happens 165 = .ok (.iconst 3, 1) := by decide +kernel
theorem dL_happens_166 : decode cL_happens 166 = .ok (.iadd, 1) := by decide +kernel
theorem dL_happens_167 : decode cL_happens 167 = .ok (.bipush 100, 2) := by decide +kernel
theorem dL_happens_169 : decode cL_happens 169 = .ok (.invokestatic 182, 3) := by decide +kernel
theorem dL_happens_172 : decode cL_happens 172 = .ok (.iconst 0, 1) := by decide +kernel
theorem dL_happens_173 : decode cL_happens 173 = .ok (.invokestatic 170, 3) := by decide +kernel
theorem dL_happens_176 : decode cL_happens 176 = .ok (.ifCond .lt 7, 3) := by decide +kernel
theorem dL_happens_179 : decode cL_happens 179 = .ok (.iconst 1, 1) := by decide +kernel
theorem dL_happens_180 : decode cL_happens 180 = .ok (.goto 4, 3) := by decide +kernel
theorem dL_happens_183 : decode cL_happens 183 = .ok (.iconst 0, 1) := by decide +kernel
theorem dL_happens_184 : decode cL_happens 184 = .ok (.ireturn, 1) := by decide +kernel
theorem dL_happens_185 : decode cL_happens 185 = .ok (.aload_n 0, 1) := by decide +kernel
theorem dL_happens_186 : decode cL_happens 186 = .ok (.getfield 10, 3) := by decide +kernel
theorem dL_happens_189 : decode cL_happens 189 = .ok (.bipush 10, 2) := by decide +kernel
theorem dL_happens_191 : decode cL_happens 191 = .ok (.aload_n 1, 1) := by decide +kernel
theorem dL_happens_192 : decode cL_happens 192 = .ok (.iload_n 2, 1) := by decide +kernel
theorem dL_happens_193 : decode cL_happens 193 = .ok (.iconst 2, 1) := by decide +kernel
theorem dL_happens_194 : decode cL_happens 194 = .ok (.iadd, 1) := by decide +kernel
theorem dL_happens_195 : decode cL_happens 195 = .ok (.bipush 8, 2) := by decide +kernel
theorem dL_happens_197 : decode cL_happens 197 = .ok (.invokestatic 182, 3) := by decide +kernel
theorem dL_happens_200 : decode cL_happens 200 = .ok (.aload_n 1, 1) := by decide +kernel
theorem dL_happens_201 : decode cL_happens 201 = .ok (.iload_n 2, 1) := by decide +kernel
theorem dL_happens_202 : decode cL_happens 202 = .ok (.iconst 3, 1) := by decide +kernel
theorem dL_happens_203 : decode cL_happens 203 = .ok (.iadd, 1) := by decide +kernel
theorem dL_happens_204 : decode cL_happens 204 = .ok (.bipush 12, 2) := by decide +kernel
theorem dL_happens_206 : decode cL_happens 206 = .ok (.invokestatic 182, 3) := by decide +kernel
theorem dL_happens_209 : decode cL_happens 209 = .ok (.aload_n 1, 1) := by decide +kernel
theorem dL_happens_210 : decode cL_happens 210 = .ok (.iload_n 2, 1) := by decide +kernel
theorem dL_happens_211 : decode cL_happens 211 = .ok (.iconst 4, 1) := by decide +kernel
theorem dL_happens_212 : decode cL_happens 212 = .ok (.iadd, 1) := by decide +kernel
theorem dL_happens_213 : decode cL_happens 213 = .ok (.bipush 20, 2) := by decide +kernel
theorem dL_happens_215 : decode cL_happens 215 = .ok (.invokestatic 182, 3) := by decide +kernel
theorem dL_happens_218 : decode cL_happens 218 = .ok (.iconst 0, 1) := by decide +kernel
theorem dL_happens_219 : decode cL_happens 219 = .ok (.iconst 0, 1) := by decide +kernel
theorem dL_happens_220 : decode cL_happens 220 = .ok (.invokestatic 161, 3) := by decide +kernel
theorem dL_happens_223 : decode cL_happens 223 = .ok (.aload_n 0, 1) := by decide +kernel
theorem dL_happens_224 : decode cL_happens 224 = .ok (.getfield 10, 3) := by decide +kernel
theorem dL_happens_227 : decode cL_happens 227 = .ok (.invokevirtual 233, 3) := by decide +kernel
theorem dL_happens_230 : decode cL_happens 230 = .ok (.if_icmp .ne 7, 3) := by decide +kernel
theorem dL_happens_233 : decode cL_happens 233 = .ok (.iconst 1, 1) := by decide +kernel
theorem dL_happens_234 : decode cL_happens 234 = .ok (.goto 4, 3) := by decide +kernel
theorem dL_happens_237 : decode cL_happens 237 = .ok (.iconst 0, 1) := by decide +kernel
theorem dL_happens_238 : decode cL_happens 238 = .ok (.ireturn, 1) := by decide +kernel
theorem dL_happens_239 : decode cL_happens 239 = .ok (.aload_n 1, 1) := by decide +kernel
theorem dL_happens_240 : decode cL_happens 240 = .ok (.iload_n 2, 1) := by decide +kernel
theorem dL_happens_241 : decode cL_happens 241 = .ok (.iconst 2, 1) := by decide +kernel
theorem dL_happens_242 : decode cL_happens 242 = .ok (.iadd, 1) := by decide +kernel
theorem dL_happens_243 : decode cL_happens 243 = .ok (.bipush 6, 2) := by decide +kernel
theorem dL_happens_245 : decode cL_happens 245 = .ok (.invokestatic 182, 3) := by decide +kernel
theorem dL_happens_248 : decode cL_happens 248 = .ok (.istore 4, 2) := by decide +kernel
theorem dL_happens_250 : decode cL_happens 250 = .ok (.aload_n 1, 1) := by decide +kernel
theorem dL_happens_251 : decode cL_happens 251 = .ok (.iload_n 2, 1) := by decide +kernel
theorem dL_happens_252 : decode cL_happens 252 = .ok (.iconst 3, 1) := by decide +kernel
theorem dL_happens_253 : decode cL_happens 253 = .ok (.iadd, 1) := by decide +kernel
theorem dL_happens_254 : decode cL_happens 254 = .ok (.bipush 12, 2) := by decide +kernel
theorem dL_happens_256 : decode cL_happens 256 = .ok (.invokestatic 182, 3) := by decide +kernel
theorem dL_happens_259 : decode cL_happens 259 = .ok (.ineg, 1) := by decide +kernel
theorem dL_happens_260 : decode cL_happens 260 = .ok (.istore 5, 2) := by decide +kernel
theorem dL_happens_262 : decode cL_happens 262 = .ok (.aload_n 0, 1) := by decide +kernel
theorem dL_happens_263 : decode cL_happens 263 = .ok (.getfield 10, 3) := by decide +kernel
theorem dL_happens_266 : decode cL_happens 266 = .ok (.invokevirtual 215, 3) := by decide +kernel
theorem dL_happens_269 : decode cL_happens 269 = .ok (.bipush 45, 2) := by decide +kernel
theorem dL_happens_271 : decode cL_happens 271 = .ok (.if_icmp .eq 27, 3) := by decide +kernel
theorem dL_happens_274 : decode cL_happens 274 = .ok (.aload_n 0, 1) := by decide +kernel
theorem dL_happens_275 : decode cL_happens 275 = .ok (.iload 4, 2) := by decide +kernel
theorem dL_happens_277 : decode cL_happens 277 = .ok (.aload_n 0, 1) := by decide +kernel
theorem dL_happens_278 : decode cL_happens 278 = .ok (.getfield 10, 3) := by decide +kernel
theorem dL_happens_281 : decode cL_happens 281 = .ok (.bipush 25, 2) := by decide +kernel
theorem dL_happens_283 : decode cL_happens 283 = .ok (.iconst 0, 1) := by decide +kernel
theorem dL_happens_284 : decode cL_happens 284 = .ok (.iconst 0, 1) := by decide +kernel
theorem dL_happens_285 : decode cL_happens 285 = .ok (.invokestatic 170, 3) := by decide +kernel
theorem dL_happens_288 : decode cL_happens 288 = .ok (.invokevirtual 198, 3) := by decide +kernel
theorem dL_happens_291 : decode cL_happens 291 = .ok (.ifCond .eq 7, 3) := by decide +kernel
theorem dL_happens_294 : decode cL_happens 294 = .ok (.iconst 1, 1) := by decide +kernel
theorem dL_happens_295 : decode cL_happens 295 = .ok (.goto 4, 3) := by decide +kernel
theorem dL_happens_298 : decode cL_happens 298 = .ok (.iconst 0, 1) := by decide +kernel
theorem dL_happens_299 : decode cL_happens 299 = .ok (.istore 6, 2) := by decide +kernel
theorem dL_happens_301 : decode cL_happens 301 = .ok (.aload_n 0, 1) := by decide +kernel
theorem dL_happens_302 : decode cL_happens 302 = .ok (.getfield 10, 3) := by decide +kernel
theorem dL_happens_305 : decode cL_happens 305 = .ok (.bipush 13, 2) := by decide +kernel
theorem dL_happens_307 : decode cL_happens 307 = .ok (.iload 4, 2) := by decide +kernel
theorem dL_happens_309 : decode cL_happens 309 = .ok (.aload_n 1, 1) := by decide +kernel
theorem dL_happens_310 : decode cL_happens 310 = .ok (.bipush 60, 2) := by decide +kernel
theorem dL_happens_312 : decode cL_happens 312 = .ok (.iload 4, 2) := by decide +kernel
theorem dL_happens_314 : decode cL_happens 314 = .ok (.iadd, 1) := by decide +kernel
theorem dL_happens_315 : decode cL_happens 315 = .ok (.bipush 6, 2) := by decide +kernel
theorem dL_happens_317 : decode cL_happens 317 = .ok (.invokestatic 182, 3) := by decide +kernel
theorem dL_happens_320 : decode cL_happens 320 = .ok (.iload 5, 2) := by decide +kernel
theorem dL_happens_322 : decode cL_happens 322 = .ok (.iconst 0, 1) := by decide +kernel
theorem dL_happens_323 : decode cL_happens 323 = .ok (.iconst 0, 1) := by decide +kernel
theorem dL_happens_324 : decode cL_happens 324 = .ok (.invokestatic 161, 3) := by decide +kernel
theorem dL_happens_327 : decode cL_happens 327 = .ok (.istore 7, 2) := by decide +kernel
theorem dL_happens_329 : decode cL_happens 329 = .ok (.aload_n 0, 1) := by decide +kernel
theorem dL_happens_330 : decode cL_happens 330 = .ok (.getfield 16, 3) := by decide +kernel
theorem dL_happens_333 : decode cL_happens 333 = .ok (.iload 4, 2) := by decide +kernel
theorem dL_happens_335 : decode cL_happens 335 = .ok (.iload 5, 2) := by decide +kernel
theorem dL_happens_337 : decode cL_happens 337 = .ok (.iastore, 1) := by decide +kernel
theorem dL_happens_338 : decode cL_happens 338 = .ok (.iload 7, 2) := by decide +kernel
theorem dL_happens_340 : decode cL_happens 340 = .ok (.iload 6, 2) := by decide +kernel
theorem dL_happens_342 : decode cL_happens 342 = .ok (.invokestatic 47, 3) := by decide +kernel
theorem dL_happens_345 : decode cL_happens 345 = .ok (.if_icmp .ne 7, 3) := by decide +kernel
theorem dL_happens_348 : decode cL_happens 348 = .ok (.iconst 1, 1) := by decide +kernel
theorem dL_happens_349 : decode cL_happens 349 = .ok (.goto 4, 3) := by decide +kernel
theorem dL_happens_352 : decode cL_happens 352 = .ok (.iconst 0, 1) := by decide +kernel
theorem dL_happens_353 : decode cL_happens 353 = .ok (.ireturn, 1) := by decide +kernel
theorem dL_happens_354 : decode cL_happens 354 = .ok (.aload_n 1, 1) := by decide +kernel
theorem dL_happens_355 : decode cL_happens 355 = .ok (.iload_n 2, 1) := by decide +kernel
theorem dL_happens_356 : decode cL_happens 356 = .ok (.iconst 2, 1) := by decide +kernel
theorem dL_happens_357 : decode cL_happens 357 = .ok (.iadd, 1) := by decide +kernel
theorem dL_happens_358 : decode cL_happens 358 = .ok (.iconst 3, 1) := by decide +kernel
theorem dL_happens_359 : decode cL_happens 359 = .ok (.invokestatic 182, 3) := by decide +kernel
theorem dL_happens_362 : decode cL_happens 362 = .ok (.istore 8, 2) := by decide +kernel
theorem dL_happens_364 : decode cL_happens 364 = .ok (.aload_n 1, 1) := by decide +kernel
theorem dL_happens_365 : decode cL_happens 365 = .ok (.iload_n 2, 1) := by decide +kernel
theorem dL_happens_366 : decode cL_happens 366 = .ok (.iconst 3, 1) := by decide +kernel
theorem dL_happens_367 : decode cL_happens 367 = .ok (.iadd, 1) := by decide +kernel
theorem dL_happens_368 : decode cL_happens 368 = .ok (.iconst 3, 1) := by decide +kernel
theorem dL_happens_369 : decode cL_happens 369 = .ok (.invokestatic 182, 3) := by decide +kernel
theorem dL_happens_372 : decode cL_happens 372 = .ok (.ifCond .le 7, 3) := by decide +kernel
theorem dL_happens_375 : decode cL_happens 375 = .ok (.iconst 1, 1) := by decide +kernel
theorem dL_happens_376 : decode cL_happens 376 = .ok (.goto 4, 3) := by decide +kernel
theorem dL_happens_379 : decode cL_happens 379 = .ok (.iconst 0, 1) := by decide +kernel
theorem dL_happens_380 : decode cL_happens 380 = .ok (.istore 9, 2) := by decide +kernel
theorem dL_happens_382 : decode cL_happens 382 = .ok (.aload_n 0, 1) := by decide +kernel
theorem dL_happens_383 : decode cL_happens 383 = .ok (.getfield 29, 3) := by decide +kernel
theorem dL_happens_386 : decode cL_happens 386 = .ok (.iload 8, 2) := by decide +kernel
theorem dL_happens_388 : decode cL_happens 388 = .ok (.baload, 1) := by decide +kernel
theorem dL_happens_389 : decode cL_happens 389 = .ok (.istore 10, 2) := by decide +kernel
theorem dL_happens_391 : decode cL_happens 391 = .ok (.aload_n 0, 1) := by decide +kernel
theorem dL_happens_392 : decode cL_happens 392 = .ok (.getfield 29, 3) := by decide +kernel
theorem dL_happens_395 : decode cL_happens 395 = .ok (.iload 8, 2) := by decide +kernel
theorem dL_happens_397 : decode cL_happens 397 = .ok (.iload 9, 2) := by decide +kernel
theorem dL_happens_399 : decode cL_happens 399 = .ok (.bastore, 1) := by decide +kernel
theorem dL_happens_400 : decode cL_happens 400 = .ok (.aload_n 0, 1) := by decide +kernel
theorem dL_happens_401 : decode cL_happens 401 = .ok (.getfield 10, 3) := by decide +kernel
theorem dL_happens_404 : decode cL_happens 404 = .ok (.iconst 1, 1) := by decide +kernel
theorem dL_happens_405 : decode cL_happens 405 = .ok (.iload 8, 2) := by decide +kernel
theorem dL_happens_407 : decode cL_happens 407 = .ok (.iload 9, 2) := by decide +kernel
theorem dL_happens_409 : decode cL_happens 409 = .ok (.invokestatic 47, 3) := by decide +kernel
theorem dL_happens_412 : decode cL_happens 412 = .ok (.iconst 0, 1) := by decide +kernel
theorem dL_happens_413 : decode cL_happens 413 = .ok (.iconst 0, 1) := by decide +kernel
theorem dL_happens_414 : decode cL_happens 414 = .ok (.iconst 0, 1) := by decide +kernel
theorem dL_happens_415 : decode cL_happens 415 = .ok (.invokestatic 161, 3) := by decide +kernel
theorem dL_happens_418 : decode cL_happens 418 = .ok (.iload 10, 2) := by decide +kernel
theorem dL_happens_420 : decode cL_happens 420 = .ok (.invokestatic 47, 3) := by decide +kernel
theorem dL_happens_423 : decode cL_happens 423 = .ok (.if_icmp .ne 7, 3) := by decide +kernel
theorem dL_happens_426 : decode cL_happens 426 = .ok (.iconst 1, 1) := by decide +kernel
theorem dL_happens_427 : decode cL_happens 427 = .ok (.goto 4, 3) := by decide +kernel
theorem dL_happens_430 : decode cL_happens 430 = .ok (.iconst 0, 1) := by decide +kernel
theorem dL_happens_431 : decode cL_happens 431 = .ok (.ireturn, 1) := by decide +kernel
theorem dL_happens_432 : decode cL_happens 432 = .ok (.aload_n 1, 1) := by decide +kernel
theorem dL_happens_433 : decode cL_happens 433 = .ok (.iload_n 2, 1) := by decide +kernel
theorem dL_happens_434 : decode cL_happens 434 = .ok (.iconst 2, 1) := by decide +kernel
theorem dL_happens_435 : decode cL_happens 435 = .ok (.iadd, 1) := by decide +kernel
theorem dL_happens_436 : decode cL_happens 436 = .ok (.iconst 3, 1) := by decide +kernel
theorem dL_happens_437 : decode cL_happens 437 = .ok (.invokestatic 182, 3) := by decide +kernel
theorem dL_happens_440 : decode cL_happens 440 = .ok (.istore 11, 2) := by decide +kernel
theorem dL_happens_442 : decode cL_happens 442 = .ok (.aload_n 0, 1) := by decide +kernel
theorem dL_happens_443 : decode cL_happens 443 = .ok (.getfield 10, 3) := by decide +kernel
theorem dL_happens_446 : decode cL_happens 446 = .ok (.bipush 20, 2) := by decide +kernel
theorem dL_happens_448 : decode cL_happens 448 = .ok (.iload 11, 2) := by decide +kernel
theorem dL_happens_450 : decode cL_happens 450 = .ok (.iconst 0, 1) := by decide +kernel
theorem dL_happens_451 : decode cL_happens 451 = .ok (.invokestatic 170, 3) := by decide +kernel
theorem dL_happens_454 : decode cL_happens 454 = .ok (.istore 12, 2) := by decide +kernel
theorem dL_happens_456 : decode cL_happens 456 = .ok (.aload_n 0, 1) := by decide +kernel
theorem dL_happens_457 : decode cL_happens 457 = .ok (.getfield 10, 3) := by decide +kernel
theorem dL_happens_460 : decode cL_happens 460 = .ok (.iconst 2, 1) := by decide +kernel
theorem dL_happens_461 : decode cL_happens 461 = .ok (.iload 11, 2) := by decide +kernel
theorem dL_happens_463 : decode cL_happens 463 = .ok (.iconst 1, 1) := by decide +kernel
theorem dL_happens_464 : decode cL_happens 464 = .ok (.aload_n 1, 1) := by decide +kernel
theorem dL_happens_465 : decode cL_happens 465 = .ok (.iload_n 2, 1) := by decide +kernel
theorem dL_happens_466 : decode cL_happens 466 = .ok (.iconst 3, 1) := by decide +kernel
theorem dL_happens_467 : decode cL_happens 467 = .ok (.iadd, 1) := by decide +kernel
theorem dL_happens_468 : decode cL_happens 468 = .ok (.bipush 50, 2) := by decide +kernel
theorem dL_happens_470 : decode cL_happens 470 = .ok (.invokestatic 182, 3) := by decide +kernel
theorem dL_happens_473 : decode cL_happens 473 = .ok (.iadd, 1) := by decide +kernel
theorem dL_happens_474 : decode cL_happens 474 = .ok (.invokestatic 170, 3) := by decide +kernel
theorem dL_happens_477 : decode cL_happens 477 = .ok (.istore 13, 2) := by decide +kernel
theorem dL_happens_479 : decode cL_happens 479 = .ok (.iload 13, 2) := by decide +kernel
theorem dL_happens_481 : decode cL_happens 481 = .ok (.iload 12, 2) := by decide +kernel
theorem dL_happens_483 : decode cL_happens 483 = .ok (.if_icmp .gt 27, 3) := by decide +kernel
theorem dL_happens_486 : decode cL_happens 486 = .ok (.aload_n 0, 1) := by decide +kernel
theorem dL_happens_487 : decode cL_happens 487 = .ok (.getfield 10, 3) := by decide +kernel
theorem dL_happens_490 : decode cL_happens 490 = .ok (.bipush 20, 2) := by decide +kernel
theorem dL_happens_492 : decode cL_happens 492 = .ok (.iload 11, 2) := by decide +kernel
theorem dL_happens_494 : decode cL_happens 494 = .ok (.iconst 0, 1) := by decide +kernel
theorem dL_happens_495 : decode cL_happens 495 = .ok (.invokestatic 170, 3) := by decide +kernel
theorem dL_happens_498 : decode cL_happens 498 = .ok (.iload 12, 2) := by decide +kernel
theorem dL_happens_500 : decode cL_happens 500 = .ok (.iload 13, 2) := by decide +kernel
theorem dL_happens_502 : decode cL_happens 502 = .ok (.isub, 1) := by decide +kernel
theorem dL_happens_503 : decode cL_happens 503 = .ok (.if_icmp .ne 7, 3) := by decide +kernel
theorem dL_happens_506 : decode cL_happens 506 = .ok (.iconst 1, 1) := by decide +kernel
theorem dL_happens_507 : decode cL_happens 507 = .ok (.goto 4, 3) := by decide +kernel
theorem dL_happens_510 : decode cL_happens 510 = .ok (.iconst 0, 1) := by decide +kernel
theorem dL_happens_511 : decode cL_happens 511 = .ok (.ireturn, 1) := by decide +kernel
theorem dL_happens_512 : decode cL_happens 512 = .ok (.aload_n 0, 1) := by decide +kernel
theorem dL_happens_513 : decode cL_happens 513 = .ok (.aload_n 1, 1) := by decide +kernel
theorem dL_happens_514 : decode cL_happens 514 = .ok (.iload_n 2, 1) := by decide +kernel
theorem dL_happens_515 : decode cL_happens 515 = .ok (.iconst 2, 1) := by decide +kernel
theorem dL_happens_516 : decode cL_happens 516 = .ok (.iadd, 1) := by decide +kernel
theorem dL_happens_517 : decode cL_happens 517 = .ok (.invokevirtual 236, 3) := by decide +kernel
theorem dL_happens_520 : decode cL_happens 520 = .ok (.ireturn, 1) := by decide +kernel
theorem dL_happens_521 : decode cL_happens 521 = .ok (.aload_n 1, 1) := by decide +kernel
theorem dL_happens_522 : decode cL_happens 522 = .ok (.iload_n 2, 1) := by decide +kernel
theorem dL_happens_523 : decode cL_happens 523 = .ok (.iconst 2, 1) := by decide +kernel
theorem dL_happens_524 : decode cL_happens 524 = .ok (.iadd, 1) := by decide +kernel
theorem dL_happens_525 : decode cL_happens 525 = .ok (.iconst 5, 1) := by decide +kernel
theorem dL_happens_526 : decode cL_happens 526 = .ok (.invokestatic 182, 3) := by decide +kernel
theorem dL_happens_529 : decode cL_happens 529 = .ok (.ifCond .ne 143, 3) := by decide +kernel
theorem dL_happens_532 : decode cL_happens 532 = .ok (.aload_n 0, 1) := by decide +kernel
theorem dL_happens_533 : decode cL_happens 533 = .ok (.getfield 10, 3) := by decide +kernel
theorem dL_happens_536 : decode cL_happens 536 = .ok (.bipush 25, 2) := by decide +kernel
theorem dL_happens_538 : decode cL_happens 538 = .ok (.iconst 0, 1) := by decide +kernel
theorem dL_happens_539 : decode cL_happens 539 = .ok (.iconst 0, 1) := by decide +kernel
theorem dL_happens_540 : decode cL_happens 540 = .ok (.invokestatic 170, 3) := by decide +kernel
theorem dL_happens_543 : decode cL_happens 543 = .ok (.istore 14, 2) := by decide +kernel
theorem dL_happens_545 : decode cL_happens 545 = .ok (.aload_n 0, 1) := by decide +kernel
theorem dL_happens_546 : decode cL_happens 546 = .ok (.getfield 10, 3) := by decide +kernel
theorem dL_happens_549 : decode cL_happens 549 = .ok (.bipush 16, 2) := by decide +kernel
theorem dL_happens_551 : decode cL_happens 551 = .ok (.aload_n 1, 1) := by decide +kernel
theorem dL_happens_552 : decode cL_happens 552 = .ok (.iload_n 2, 1) := by decide +kernel
theorem dL_happens_553 : decode cL_happens 553 = .ok (.iconst 3, 1) := by decide +kernel
theorem dL_happens_554 : decode cL_happens 554 = .ok (.iadd, 1) := by decide +kernel
theorem dL_happens_555 : decode cL_happens 555 = .ok (.iconst 3, 1) := by decide +kernel
theorem dL_happens_556 : decode cL_happens 556 = .ok (.invokestatic 182, 3) := by decide +kernel
theorem dL_happens_559 : decode cL_happens 559 = .ok (.iconst 0, 1) := by decide +kernel
theorem dL_happens_560 : decode cL_happens 560 = .ok (.invokestatic 170, 3) := by decide +kernel
theorem dL_happens_563 : decode cL_happens 563 = .ok (.istore 15, 2) := by decide +kernel
theorem dL_happens_565 : decode cL_happens 565 = .ok (.aload_n 0, 1) := by decide +kernel
theorem dL_happens_566 : decode cL_happens 566 = .ok (.aload_n 0, 1) := by decide +kernel
theorem dL_happens_567 : decode cL_happens 567 = .ok (.getfield 229, 3) := by decide +kernel
theorem dL_happens_570 : decode cL_happens 570 = .ok (.ifCond .ne 8, 3) := by decide +kernel
theorem dL_happens_573 : decode cL_happens 573 = .ok (.iload 15, 2) := by decide +kernel
theorem dL_happens_575 : decode cL_happens 575 = .ok (.ifCond .lt 7, 3) := by decide +kernel
theorem dL_happens_578 : decode cL_happens 578 = .ok (.iconst 1, 1) := by decide +kernel
theorem dL_happens_579 : decode cL_happens 579 = .ok (.goto 4, 3) := by decide +kernel
theorem dL_happens_582 : decode cL_happens 582 = .ok (.iconst 0, 1) := by decide +kernel
theorem dL_happens_583 : decode cL_happens 583 = .ok (.putfield 229, 3) := by decide +kernel
theorem dL_happens_586 : decode cL_happens 586 = .ok (.iconst 0, 1) := by decide +kernel
theorem dL_happens_587 : decode cL_happens 587 = .ok (.istore 16, 2) := by decide +kernel
theorem dL_happens_589 : decode cL_happens 589 = .ok (.iload 16, 2) := by decide +kernel
theorem dL_happens_591 : decode cL_happens 591 = .ok (.bipush 6, 2) := by decide +kernel
theorem dL_happens_593 : decode cL_happens 593 = .ok (.if_icmp .ge 24, 3) := by decide +kernel
theorem dL_happens_596 : decode cL_happens 596 = .ok (.iload 15, 2) := by decide +kernel
theorem dL_happens_598 : decode cL_happens 598 = .ok (.ifCond .lt 19, 3) := by decide +kernel
theorem dL_happens_601 : decode cL_happens 601 = .ok (.aload_n 0, 1) := by decide +kernel
theorem dL_happens_602 : decode cL_happens 602 = .ok (.getfield 16, 3) := by decide +kernel
theorem dL_happens_605 : decode cL_happens 605 = .ok (.iload 16, 2) := by decide +kernel
theorem dL_happens_607 : decode cL_happens 607 = .ok (.sipush (-9999), 3) := by decide +kernel
theorem dL_happens_610 : decode cL_happens 610 = .ok (.iastore, 1) := by decide +kernel
theorem dL_happens_611 : decode cL_happens 611 = .ok (.iinc 16 1, 3) := by decide +kernel
theorem dL_happens_614 : decode cL_happens 614 = .ok (.goto (-25), 3) := by decide +kernel
theorem dL_happens_617 : decode cL_happens 617 = .ok (.iload 15, 2) := by decide +kernel
theorem dL_happens_619 : decode cL_happens 619 = .ok (.sipush (-20004), 3) := by decide +kernel
theorem dL_happens_622 : decode cL_happens 622 = .ok (.if_icmp .eq 44, 3) := by decide +kernel
theorem dL_happens_625 : decode cL_happens 625 = .ok (.iload 15, 2) := by decide +kernel
theorem dL_happens_627 : decode cL_happens 627 = .ok (.sipush (-20001), 3) := by decide +kernel
theorem dL_happens_630 : decode cL_happens 630 = .ok (.if_icmp .eq 36, 3) := by decide +kernel
theorem dL_happens_633 : decode cL_happens 633 = .ok (.iload 15, 2) := by decide +kernel
theorem dL_happens_635 : decode cL_happens 635 = .ok (.ifCond .lt 35, 3) := by decide +kernel
theorem dL_happens_638 : decode cL_happens 638 = .ok (.aload_n 0, 1) := by decide +kernel
theorem dL_happens_639 : decode cL_happens 639 = .ok (.getfield 10, 3) := by decide +kernel
theorem dL_happens_642 : decode cL_happens 642 = .ok (.bipush 25, 2) := by decide +kernel
theorem dL_happens_644 : decode cL_happens 644 = .ok (.iconst 0, 1) := by decide +kernel
theorem dL_happens_645 : decode cL_happens 645 = .ok (.iconst 0, 1) := by decide +kernel
theorem dL_happens_646 : decode cL_happens 646 = .ok (.invokestatic 170, 3) := by decide +kernel
theorem dL_happens_649 : decode cL_happens 649 = .ok (.iload 14, 2) := by decide +kernel
theorem dL_happens_651 : decode cL_happens 651 = .ok (.if_icmp .ge 19, 3) := by decide +kernel
theorem dL_happens_654 : decode cL_happens 654 = .ok (.aload_n 0, 1) := by decide +kernel
theorem dL_happens_655 : decode cL_happens 655 = .ok (.getfield 10, 3) := by decide +kernel
theorem dL_happens_658 : decode cL_happens 658 = .ok (.invokevirtual 215, 3) := by decide +kernel
theorem dL_happens_661 : decode cL_happens 661 = .ok (.bipush 99, 2) := by decide +kernel
theorem dL_happens_663 : decode cL_happens 663 = .ok (.if_icmp .ne 7, 3) := by decide +kernel
theorem dL_happens_666 : decode cL_happens 666 = .ok (.iconst 1, 1) := by decide +kernel
theorem dL_happens_667 : decode cL_happens 667 = .ok (.goto 4, 3) := by decide +kernel
theorem dL_happens_670 : decode cL_happens 670 = .ok (.iconst 0, 1) := by decide +kernel
theorem dL_happens_671 : decode cL_happens 671 = .ok (.ireturn, 1) := by decide +kernel
theorem dL_happens_672 : decode cL_happens 672 = .ok (.iconst 1, 1) := by decide +kernel
theorem dL_happens_673 : decode cL_happens 673 = .ok (.ireturn, 1) := by decide +kernel
theorem dL_happens_674 : decode cL_happens 674 = .ok (.aload_n 0, 1) := by decide +kernel
theorem dL_happens_675 : decode cL_happens 675 = .ok (.getfield 10, 3) := by decide +kernel
theorem dL_happens_678 : decode cL_happens 678 = .ok (.bipush 18, 2) := by decide +kernel
theorem dL_happens_680 : decode cL_happens 680 = .ok (.aload_n 1, 1) := by decide +kernel
theorem dL_happens_681 : decode cL_happens 681 = .ok (.iload_n 2, 1) := by decide +kernel
theorem dL_happens_682 : decode cL_happens 682 = .ok (.iconst 2, 1) := by decide +kernel
theorem dL_happens_683 : decode cL_happens 683 = .ok (.iadd, 1) := by decide +kernel
theorem dL_happens_684 : decode cL_happens 684 = .ok (.iconst 2, 1) := by decide +kernel
theorem dL_happens_685 : decode cL_happens 685 = .ok (.invokestatic 182, 3) := by decide +kernel
theorem dL_happens_688 : decode cL_happens 688 = .ok (.aload_n 1, 1) := by decide +kernel
theorem dL_happens_689 : decode cL_happens 689 = .ok (.iload_n 2, 1) := by decide +kernel
theorem dL_happens_690 : decode cL_happens 690 = .ok (.iconst 3, 1) := by decide +kernel
theorem dL_happens_691 : decode cL_happens 691 = .ok (.iadd, 1) := by decide +kernel
theorem dL_happens_692 : decode cL_happens 692 = .ok (.iconst 5, 1) := by decide +kernel
theorem dL_happens_693 : decode cL_happens 693 = .ok (.invokestatic 182, 3) := by decide +kernel
theorem dL_happens_696 : decode cL_happens 696 = .ok (.ifCond .ne 20, 3) := by decide +kernel
theorem dL_happens_699 : decode cL_happens 699 = .ok (.aload_n 1, 1) := by decide +kernel
theorem dL_happens_700 : decode cL_happens 700 = .ok (.iload_n 2, 1) := by decide +kernel
theorem dL_happens_701 : decode cL_happens 701 = .ok (.iconst 4, 1) := by decide +kernel
theorem dL_happens_702 : decode cL_happens 702 = .ok (.iadd, 1) := by decide +kernel
theorem dL_happens_703 : decode cL_happens 703 = .ok (.sipush 400, 3) := by decide +kernel
theorem dL_happens_706 : decode cL_happens 706 = .ok (.invokestatic 182, 3) := by decide +kernel
theorem dL_happens_709 : decode cL_happens 709 = .ok (.sipush 200, 3) := by decide +kernel
theorem dL_happens_712 : decode cL_happens 712 = .ok (.isub, 1) := by decide +kernel
theorem dL_happens_713 : decode cL_happens 713 = .ok (.goto 12, 3) := by decide +kernel
theorem dL_happens_716 : decode cL_happens 716 = .ok (.aload_n 1, 1) := by decide +kernel
theorem dL_happens_717 : decode cL_happens 717 = .ok (.iload_n 2, 1) := by decide +kernel
theorem dL_happens_718 : decode cL_happens 718 = .ok (.iconst 4, 1) := by decide +kernel
theorem dL_happens_719 : decode cL_happens 719 = .ok (.iadd, 1) := by decide +kernel
theorem dL_happens_720 : decode cL_happens 720 = .ok (.bipush 21, 2) := by decide +kernel
theorem dL_happens_722 : decode cL_happens 722 = .ok (.invokestatic 182, 3) := by decide +kernel
theorem dL_happens_725 : decode cL_happens 725 = .ok (.invokestatic 170, 3) := by decide +kernel
theorem dL_happens_728 : decode cL_happens 728 = .ok (.pop, 1) := by decide +kernel
theorem dL_happens_729 : decode cL_happens 729 = .ok (.iconst 1, 1) := by decide +kernel
theorem dL_happens_730 : decode cL_happens 730 = .ok (.ireturn, 1) := by decide +kernel
theorem dL_happens_731 : decode cL_happens 731 = .ok (.aload_n 1, 1) := by decide +kernel
theorem dL_happens_732 : decode cL_happens 732 = .ok (.iload_n 2, 1) := by decide +kernel
theorem dL_happens_733 : decode cL_happens 733 = .ok (.iconst 2, 1) := by decide +kernel
theorem dL_happens_734 : decode cL_happens 734 = .ok (.iadd, 1) := by decide +kernel
theorem dL_happens_735 : decode cL_happens 735 = .ok (.bipush 12, 2) := by decide +kernel
theorem dL_happens_737 : decode cL_happens 737 = .ok (.invokestatic 182, 3) := by decide +kernel
theorem dL_happens_740 : decode cL_happens 740 = .ok (.ifCond .ne 85, 3) := by decide +kernel
theorem dL_happens_743 : decode cL_happens 743 = .ok (.aload_n 0, 1) := by decide +kernel
theorem dL_happens_744 : decode cL_happens 744 = .ok (.getfield 10, 3) := by decide +kernel
theorem dL_happens_747 : decode cL_happens 747 = .ok (.invokevirtual 215, 3) := by decide +kernel
theorem dL_happens_750 : decode cL_happens 750 = .ok (.bipush 99, 2) := by decide +kernel
theorem dL_happens_752 : decode cL_happens 752 = .ok (.if_icmp .eq 15, 3) := by decide +kernel
theorem dL_happens_755 : decode cL_happens 755 = .ok (.aload_n 0, 1) := by decide +kernel
theorem dL_happens_756 : decode cL_happens 756 = .ok (.getfield 10, 3) := by decide +kernel
theorem dL_happens_759 : decode cL_happens 759 = .ok (.invokevirtual 215, 3) := by decide +kernel
theorem dL_happens_762 : decode cL_happens 762 = .ok (.bipush 104, 2) := by decide +kernel
theorem dL_happens_764 : decode cL_happens 764 = .ok (.if_icmp .ne 7, 3) := by decide +kernel
theorem dL_happens_767 : decode cL_happens 767 = .ok (.iconst 1, 1) := by decide +kernel
theorem dL_happens_768 : decode cL_happens 768 = .ok (.goto 4, 3) := by decide +kernel
theorem dL_happens_771 : decode cL_happens 771 = .ok (.iconst 0, 1) := by decide +kernel
theorem dL_happens_772 : decode cL_happens 772 = .ok (.istore 14, 2) := by decide +kernel
theorem dL_happens_774 : decode cL_happens 774 = .ok (.aload_n 0, 1) := by decide +kernel
theorem dL_happens_775 : decode cL_happens 775 = .ok (.getfield 10, 3) := by decide +kernel
theorem dL_happens_778 : decode cL_happens 778 = .ok (.invokevirtual 239, 3) := by decide +kernel
theorem dL_happens_781 : decode cL_happens 781 = .ok (.iload 14, 2) := by decide +kernel
theorem dL_happens_783 : decode cL_happens 783 = .ok (.if_icmp .ne 40, 3) := by decide +kernel
theorem dL_happens_786 : decode cL_happens 786 = .ok (.iload 14, 2) := by decide +kernel
theorem dL_happens_788 : decode cL_happens 788 = .ok (.ifCond .eq 31, 3) := by decide +kernel
theorem dL_happens_791 : decode cL_happens 791 = .ok (.aload_n 0, 1) := by decide +kernel
theorem dL_happens_792 : decode cL_happens 792 = .ok (.getfield 10, 3) := by decide +kernel
theorem dL_happens_795 : decode cL_happens 795 = .ok (.invokevirtual 215, 3) := by decide +kernel
theorem dL_happens_798 : decode cL_happens 798 = .ok (.bipush 115, 2) := by decide +kernel
theorem dL_happens_800 : decode cL_happens 800 = .ok (.if_icmp .ne 23, 3) := by decide +kernel
theorem dL_happens_803 : decode cL_happens 803 = .ok (.aload_n 0, 1) := by decide +kernel
theorem dL_happens_804 : decode cL_happens 804 = .ok (.getfield 10, 3) := by decide +kernel
theorem dL_happens_807 : decode cL_happens 807 = .ok (.bipush 27, 2) := by decide +kernel
theorem dL_happens_809 : decode cL_happens 809 = .ok (.iconst 0, 1) := by decide +kernel
theorem dL_happens_810 : decode cL_happens 810 = .ok (.iconst 0, 1) := by decide +kernel
theorem dL_happens_811 : decode cL_happens 811 = .ok (.invokestatic 170, 3) := by decide +kernel
theorem dL_happens_814 : decode cL_happens 814 = .ok (.bipush 99, 2) := by decide +kernel
theorem dL_happens_816 : decode cL_happens 816 = .ok (.if_icmp .ne 7, 3) := by decide +kernel
theorem dL_happens_819 : decode cL_happens 819 = .ok (.iconst 1, 1) := by decide +kernel
theorem dL_happens_820 : decode cL_happens 820 = .ok (.goto 4, 3) := by decide +kernel
theorem dL_happens_823 : decode cL_happens 823 = .ok (.iconst 0, 1) := by decide +kernel
theorem dL_happens_824 : decode cL_happens 824 = .ok (.ireturn, 1) := by decide +kernel
theorem dL_happens_825 : decode cL_happens 825 = .ok (.iconst 1, 1) := by decide +kernel
theorem dL_happens_826 : decode cL_happens 826 = .ok (.ireturn, 1) := by decide +kernel
theorem dL_happens_827 : decode cL_happens 827 = .ok (.iconst 1, 1) := by decide +kernel
theorem dL_happens_828 : decode cL_happens 828 = .ok (.ireturn, 1) := by decide +kernel
theorem dL_isLogged_0 : decode cL_isLogged 0 = .ok (.aload_n 0, 1) := by decide +kernel
theorem dL_isLogged_1 : decode cL_isLogged 1 = .ok (.getfield 10, 3) := by decide +kernel
theorem dL_isLogged_4 : decode cL_isLogged 4 = .ok (.invokestatic 243, 3) := by decide +kernel
theorem dL_isLogged_7 : decode cL_isLogged 7 = .ok (.astore_n 1, 1) := by decide +kernel
theorem dL_isLogged_8 : decode cL_isLogged 8 = .ok (.iconst 0, 1) := by decide +kernel
theorem dL_isLogged_9 : decode cL_isLogged 9 = .ok (.istore_n 2, 1) := by decide +kernel
theorem dL_isLogged_10 : decode cL_isLogged 10 = .ok (.iconst 0, 1) := by decide +kernel
theorem dL_isLogged_11 : decode cL_isLogged 11 = .ok (.istore_n 3, 1) := by decide +kernel
theorem dL_isLogged_12 : decode cL_isLogged 12 = .ok (.iload_n 3, 1) := by decide +kernel
theorem dL_isLogged_13 : decode cL_isLogged 13 = .ok (.aload_n 1, 1) := by decide +kernel
theorem dL_isLogged_14 : decode cL_isLogged 14 = .ok (.invokevirtual 247, 3) := by decide +kernel
theorem dL_isLogged_17 : decode cL_isLogged 17 = .ok (.if_icmp .ge 33, 3) := by decide +kernel
theorem dL_isLogged_20 : decode cL_isLogged 20 = .ok (.iload_n 2, 1) := by decide +kernel
theorem dL_isLogged_21 : decode cL_isLogged 21 = .ok (.ldc 250, 2) := by decide +kernel
theorem dL_isLogged_23 : decode cL_isLogged 23 = .ok (.aload_n 1, 1) := by decide +kernel
theorem dL_isLogged_24 : decode cL_isLogged 24 = .ok (.iload_n 3, 1) := by decide +kernel
theorem dL_isLogged_25 : decode cL_isLogged 25 = .ok (.invokevirtual 188, 3) := by decide +kernel
theorem dL_isLogged_28 : decode cL_isLogged 28 = .ok (.invokevirtual 252, 3) := by decide +kernel
theorem dL_isLogged_31 : decode cL_isLogged 31 = .ok (.ifCond .lt 7, 3) := by decide +kernel
theorem dL_isLogged_34 : decode cL_isLogged 34 = .ok (.iconst 1, 1) := by decide +kernel
theorem dL_isLogged_35 : decode cL_isLogged 35 = .ok (.goto 4, 3) := by decide +kernel
theorem dL_isLogged_38 : decode cL_isLogged 38 = .ok (.iconst 0, 1) := by decide +kernel
theorem dL_isLogged_39 : decode cL_isLogged 39 = .ok (.invokestatic 47, 3) := by decide +kernel
theorem dL_isLogged_42 : decode cL_isLogged 42 = .ok (.iadd, 1) := by decide +kernel
theorem dL_isLogged_43 : decode cL_isLogged 43 = .ok (.istore_n 2, 1) := by decide +kernel
theorem dL_isLogged_44 : decode cL_isLogged 44 = .ok (.iinc 3 1, 3) := by decide +kernel
theorem dL_isLogged_47 : decode cL_isLogged 47 = .ok (.goto (-35), 3) := by decide +kernel
theorem dL_isLogged_50 : decode cL_isLogged 50 = .ok (.iconst 0, 1) := by decide +kernel
theorem dL_isLogged_51 : decode cL_isLogged 51 = .ok (.istore_n 3, 1) := by decide +kernel
theorem dL_isLogged_52 : decode cL_isLogged 52 = .ok (.iconst 0, 1) := by decide +kernel
theorem dL_isLogged_53 : decode cL_isLogged 53 = .ok (.istore 4, 2) := by decide +kernel
theorem dL_isLogged_55 : decode cL_isLogged 55 = .ok (.iload 4, 2) := by decide +kernel
theorem dL_isLogged_57 : decode cL_isLogged 57 = .ok (.bipush 8, 2) := by decide +kernel
theorem dL_isLogged_59 : decode cL_isLogged 59 = .ok (.if_icmp .ge 26, 3) := by decide +kernel
theorem dL_isLogged_62 : decode cL_isLogged 62 = .ok (.iload_n 3, 1) := by decide +kernel
theorem dL_isLogged_63 : decode cL_isLogged 63 = .ok (.aload_n 0, 1) := by decide +kernel
theorem dL_isLogged_64 : decode cL_isLogged 64 = .ok (.getfield 10, 3) := by decide +kernel
theorem dL_isLogged_67 : decode cL_isLogged 67 = .ok (.ldc 250, 2) := by decide +kernel
theorem dL_isLogged_69 : decode cL_isLogged 69 = .ok (.iload 4, 2) := by decide +kernel
theorem dL_isLogged_71 : decode cL_isLogged 71 = .ok (.invokevirtual 188, 3) := by decide +kernel
theorem dL_isLogged_74 : decode cL_isLogged 74 = .ok (.invokevirtual 255, 3) := by decide +kernel
theorem dL_isLogged_77 : decode cL_isLogged 77 = .ok (.iadd, 1) := by decide +kernel
theorem dL_isLogged_78 : decode cL_isLogged 78 = .ok (.istore_n 3, 1) := by decide +kernel
theorem dL_isLogged_79 : decode cL_isLogged 79 = .ok (.iinc 4 1, 3) := by decide +kernel
theorem dL_isLogged_82 : decode cL_isLogged 82 = .ok (.goto (-27), 3) := by decide +kernel
theorem dL_isLogged_85 : decode cL_isLogged 85 = .ok (.iload_n 2, 1) := by decide +kernel
theorem dL_isLogged_86 : decode cL_isLogged 86 = .ok (.iload_n 3, 1) := by decide +kernel
theorem dL_isLogged_87 : decode cL_isLogged 87 = .ok (.if_icmp .ne 55, 3) := by decide +kernel
theorem dL_isLogged_90 : decode cL_isLogged 90 = .ok (.aload_n 0, 1) := by decide +kernel
theorem dL_isLogged_91 : decode cL_isLogged 91 = .ok (.getfield 10, 3) := by decide +kernel
theorem dL_isLogged_94 : decode cL_isLogged 94 = .ok (.bipush 59, 2) := by decide +kernel
theorem dL_isLogged_96 : decode cL_isLogged 96 = .ok (.invokevirtual 255, 3) := by decide +kernel
theorem dL_isLogged_99 : decode cL_isLogged 99 = .ok (.iload_n 2, 1) := by decide +kernel
theorem dL_isLogged_100 : decode cL_isLogged 100 = .ok (.if_icmp .ne 42, 3) := by decide +kernel
theorem dL_isLogged_103 : decode cL_isLogged 103 = .ok (.aload_n 0, 1) := by decide +kernel
theorem dL_isLogged_104 : decode cL_isLogged 104 = .ok (.getfield 10, 3) := by decide +kernel
theorem dL_isLogged_107 : decode cL_isLogged 107 = .ok (.bipush 72, 2) := by decide +kernel
theorem dL_isLogged_109 : decode cL_isLogged 109 = .ok (.invokevirtual 255, 3) := by decide +kernel
theorem dL_isLogged_112 : decode cL_isLogged 112 = .ok (.aload_n 0, 1) := by decide +kernel
theorem dL_isLogged_113 : decode cL_isLogged 113 = .ok (.getfield 10, 3) := by decide +kernel
theorem dL_isLogged_116 : decode cL_isLogged 116 = .ok (.bipush 71, 2) := by decide +kernel
theorem dL_isLogged_118 : decode cL_isLogged 118 = .ok (.invokevirtual 255, 3) := by decide +kernel
theorem dL_isLogged_121 : decode cL_isLogged 121 = .ok (.isub, 1) := by decide +kernel
theorem dL_isLogged_122 : decode cL_isLogged 122 = .ok (.ifCond .lt 20, 3) := by decide +kernel
theorem dL_isLogged_125 : decode cL_isLogged 125 = .ok (.aload_n 0, 1) := by decide +kernel
theorem dL_isLogged_126 : decode cL_isLogged 126 = .ok (.getfield 10, 3) := by decide +kernel
theorem dL_isLogged_129 : decode cL_isLogged 129 = .ok (.bipush 70, 2) := by decide +kernel
theorem dL_isLogged_131 : decode cL_isLogged 131 = .ok (.invokevirtual 255, 3) := by decide +kernel
theorem dL_isLogged_134 : decode cL_isLogged 134 = .ok (.iconst 1, 1) := by decide +kernel
theorem dL_isLogged_135 : decode cL_isLogged 135 = .ok (.if_icmp .gt 7, 3) := by decide +kernel
theorem dL_isLogged_138 : decode cL_isLogged 138 = .ok (.iconst 1, 1) := by decide +kernel
theorem dL_isLogged_139 : decode cL_isLogged 139 = .ok (.goto 4, 3) := by decide +kernel
theorem dL_isLogged_142 : decode cL_isLogged 142 = .ok (.iconst 0, 1) := by decide +kernel
theorem dL_isLogged_143 : decode cL_isLogged 143 = .ok (.ireturn, 1) := by decide +kernel
theorem dL_holds_0 : decode cL_holds 0 = .ok (.aload_n 0, 1) := by decide +kernel
theorem dL_holds_1 : decode cL_holds 1 = .ok (.aload_n 1, 1) := by decide +kernel
theorem dL_holds_2 : decode cL_holds 2 = .ok (.invokevirtual 259, 3) := by decide +kernel
theorem dL_holds_5 : decode cL_holds 5 = .ok (.aload_n 0, 1) := by decide +kernel
theorem dL_holds_6 : decode cL_holds 6 = .ok (.aload_n 1, 1) := by decide +kernel
theorem dL_holds_7 : decode cL_holds 7 = .ok (.bipush 80, 2) := by decide +kernel
theorem dL_holds_9 : decode cL_holds 9 = .ok (.invokevirtual 236, 3) := by decide +kernel
theorem dL_holds_12 : decode cL_holds 12 = .ok (.istore_n 2, 1) := by decide +kernel
theorem dL_holds_13 : decode cL_holds 13 = .ok (.iconst 0, 1) := by decide +kernel
theorem dL_holds_14 : decode cL_holds 14 = .ok (.istore_n 3, 1) := by decide +kernel
theorem dL_holds_15 : decode cL_holds 15 = .ok (.iload_n 3, 1) := by decide +kernel
theorem dL_holds_16 : decode cL_holds 16 = .ok (.bipush 70, 2) := by decide +kernel
theorem dL_holds_18 : decode cL_holds 18 = .ok (.if_icmp .ge 83, 3) := by decide +kernel
theorem dL_holds_21 : decode cL_holds 21 = .ok (.iload_n 2, 1) := by decide +kernel
theorem dL_holds_22 : decode cL_holds 22 = .ok (.ifCond .eq 79, 3) := by decide +kernel
theorem dL_holds_25 : decode cL_holds 25 = .ok (.bipush 90, 2) := by decide +kernel
theorem dL_holds_27 : decode cL_holds 27 = .ok (.bipush 6, 2) := by decide +kernel
theorem dL_holds_29 : decode cL_holds 29 = .ok (.iload_n 3, 1) := by decide +kernel
theorem dL_holds_30 : decode cL_holds 30 = .ok (.imul, 1) := by decide +kernel
theorem dL_holds_31 : decode cL_holds 31 = .ok (.iadd, 1) := by decide +kernel
theorem dL_holds_32 : decode cL_holds 32 = .ok (.istore 4, 2) := by decide +kernel
theorem dL_holds_34 : decode cL_holds 34 = .ok (.aload_n 0, 1) := by decide +kernel
theorem dL_holds_35 : decode cL_holds 35 = .ok (.aload_n 1, 1) := by decide +kernel
theorem dL_holds_36 : decode cL_holds 36 = .ok (.iload 4, 2) := by decide +kernel
theorem dL_holds_38 : decode cL_holds 38 = .ok (.invokevirtual 263, 3) := by decide +kernel
theorem dL_holds_41 : decode cL_holds 41 = .ok (.ifCond .eq 52, 3) := by decide +kernel
theorem dL_holds_44 : decode cL_holds 44 = .ok (.aload_n 0, 1) := by decide +kernel
theorem dL_holds_45 : decode cL_holds 45 = .ok (.getfield 10, 3) := by decide +kernel
theorem dL_holds_48 : decode cL_holds 48 = .ok (.invokevirtual 215, 3) := by decide +kernel
theorem dL_holds_51 : decode cL_holds 51 = .ok (.bipush 45, 2) := by decide +kernel
theorem dL_holds_53 : decode cL_holds 53 = .ok (.if_icmp .eq 11, 3) := by decide +kernel
theorem dL_holds_56 : decode cL_holds 56 = .ok (.aload_n 0, 1) := by decide +kernel
theorem dL_holds_57 : decode cL_holds 57 = .ok (.aload_n 1, 1) := by decide +kernel
theorem dL_holds_58 : decode cL_holds 58 = .ok (.invokevirtual 266, 3) := by decide +kernel
theorem dL_holds_61 : decode cL_holds 61 = .ok (.ifCond .eq 32, 3) := by decide +kernel
theorem dL_holds_64 : decode cL_holds 64 = .ok (.aload_n 0, 1) := by decide +kernel
theorem dL_holds_65 : decode cL_holds 65 = .ok (.aload_n 1, 1) := by decide +kernel
theorem dL_holds_66 : decode cL_holds 66 = .ok (.invokevirtual 269, 3) := by decide +kernel
theorem dL_holds_69 : decode cL_holds 69 = .ok (.ifCond .eq 24, 3) := by decide +kernel
theorem dL_holds_72 : decode cL_holds 72 = .ok (.aload_n 0, 1) := by decide +kernel
theorem dL_holds_73 : decode cL_holds 73 = .ok (.invokevirtual 272, 3) := by decide +kernel
theorem dL_holds_76 : decode cL_holds 76 = .ok (.ifCond .eq 17, 3) := by decide +kernel
theorem dL_holds_79 : decode cL_holds 79 = .ok (.aload_n 0, 1) := by decide +kernel
theorem dL_holds_80 : decode cL_holds 80 = .ok (.getfield 10, 3) := by decide +kernel
theorem dL_holds_83 : decode cL_holds 83 = .ok (.invokevirtual 275, 3) := by decide +kernel
theorem dL_holds_86 : decode cL_holds 86 = .ok (.ifCond .eq 7, 3) := by decide +kernel
theorem dL_holds_89 : decode cL_holds 89 = .ok (.iconst 1, 1) := by decide +kernel
theorem dL_holds_90 : decode cL_holds 90 = .ok (.goto 4, 3) := by decide +kernel
theorem dL_holds_93 : decode cL_holds 93 = .ok (.iconst 0, 1) := by decide +kernel
theorem dL_holds_94 : decode cL_holds 94 = .ok (.istore_n 2, 1) := by decide +kernel
theorem dL_holds_95 : decode cL_holds 95 = .ok (.iinc 3 1, 3) := by decide +kernel
theorem dL_holds_98 : decode cL_holds 98 = .ok (.goto (-83), 3) := by decide +kernel
theorem dL_holds_101 : decode cL_holds 101 = .ok (.iload_n 2, 1) := by decide +kernel
theorem dL_holds_102 : decode cL_holds 102 = .ok (.ireturn, 1) := by decide +kernel
theorem dL_law_0 : decode cL_law 0 = .ok (.new 11, 3) := by decide +kernel
theorem dL_law_3 : decode cL_law 3 = .ok (.dup, 1) := by decide +kernel
theorem dL_law_4 : decode cL_law 4 = .ok (.invokespecial 278, 3) := by decide +kernel
theorem dL_law_7 : decode cL_law 7 = .ok (.aload_n 0, 1) := by decide +kernel
theorem dL_law_8 : decode cL_law 8 = .ok (.invokevirtual 279, 3) := by decide +kernel
theorem dL_law_11 : decode cL_law 11 = .ok (.ireturn, 1) := by decide +kernel
abbrev vwCl : List vw_C := [(RJ0, TJ0, 4), (RJ4, TJ4, 4), (RJx00060, TJx00060, 6), (RX0, TX0, 1), (RX1, TX1, 9), (RX2, TX2, 4), (RX3, TX3, 2), (RX4, TX4, 3), (RX5, TX5, 4), (RX6, TX6, 11), (RX7, TX7, 2), (RX8, TX8, 6), (RX9, TX9, 5), (RX10, TX10, 13), (RL, TL, 9)]
