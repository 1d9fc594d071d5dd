/-! ===== BEGIN words of one list among another's, by their places ===== -/
theorem goodIn_r {big : List Cond} (ws : List Cond) (ps : List Nat) (hp : ws = ps.filterMap (fun i => big[i]?)) (h : ws.all goodWord = true) : GoodIn big ws := by
  intro w hw
  have h1 := List.all_eq_true.mp h w hw
  rw [hp] at hw
  obtain ⟨i, -, hi⟩ := List.mem_filterMap.mp hw
  have hm : w ∈ big := by first | exact List.mem_of_getElem? hi | exact List.getElem?_mem hi
  exact ⟨hm, good_of_word h1⟩
theorem goodIn_app {big a b : List Cond} (ha : GoodIn big a) (hb : GoodIn big b) : GoodIn big (a ++ b) := fun w h => (List.mem_append.mp h).elim (ha w) (hb w)
theorem goodIn_ca {big a b : List Cond} {c : Cond} (ha : GoodIn big (c :: a)) (hb : GoodIn big b) : GoodIn big (c :: (a ++ b)) := fun w h => (List.mem_cons.mp h).elim (fun e => ha w (List.mem_cons.mpr (Or.inl e))) (fun h => (List.mem_append.mp h).elim (fun h => ha w (List.mem_cons.mpr (Or.inr h))) (hb w))
theorem goodIn_sub {big ws : List Cond} (hm : ∀ w ∈ ws, w ∈ big) (h : ws.all goodWord = true) : GoodIn big ws := fun w hw => ⟨hm w hw, good_of_word (List.all_eq_true.mp h w hw)⟩
/-! ===== END ===== -/

/-! ===== BEGIN printed: names, fields, word lists, decode rows ===== -/
def RX0 : String := "ScannedDigits$Digit"
def TX0 : u_T := fun k => match k with
  | 0 => ("ScannedDigits$Digit", "width", "I", false)
  | 1 => ("ScannedDigits$Digit", "guard", "I", false)
  | 2 => ("ScannedDigits$Digit", "brightness", "I", false)
  | 3 => ("ScannedDigits$Digit", "pattern", "I", false)
  | 4 => ("ScannedDigits$Digit", "group", "I", false)
  | 5 => ("ScannedDigits$Digit", "drivenTicks", "I", false)
  | 6 => ("ScannedDigits$Digit", "broken", "I", false)
  | 7 => ("ScannedDigits$Digit", "glow", "[I", true)
  | _ => ("ScannedDigits$Digit", "use", "[I", true)
def tyX0 : Nat → FieldType := fun k => match k with
  | 0 => .int
  | 1 => .int
  | 2 => .int
  | 3 => .int
  | 4 => .int
  | 5 => .int
  | 6 => .int
  | 7 => .array .int
  | _ => .array .int
abbrev wsX00 : List Cond := u_ws RX0 TX0 9
theorem nmX0 : ∀ a, a < 9 → ∀ b, b < 9 → a ≠ b → (TX0 a).2.1 ≠ (TX0 b).2.1 := by decide +kernel
theorem tyX0_ok : ∀ k, k < 9 → parseFieldDescriptor (TX0 k).2.2.1 = some (tyX0 k) := by decide +kernel
abbrev cX0_init : ByteArray := prog_2_method_1_code
def yX0_init : MethodName := ⟨RX0, "<init>", "()V"⟩
abbrev cX0_makeNew : ByteArray := prog_2_method_2_code
def yX0_makeNew : MethodName := ⟨RX0, "makeNew", "()V"⟩
abbrev cX0_renewSegments : ByteArray := prog_2_method_3_code
def yX0_renewSegments : MethodName := ⟨RX0, "renewSegments", "()V"⟩
abbrev cX0_copyFrom : ByteArray := prog_2_method_4_code
def yX0_copyFrom : MethodName := ⟨RX0, "copyFrom", "(LScannedDigits$Digit;)V"⟩
abbrev cX0_litPart : ByteArray := prog_2_method_5_code
def yX0_litPart : MethodName := ⟨RX0, "litPart", "()I"⟩
abbrev cX0_litPartAt : ByteArray := prog_2_method_6_code
def yX0_litPartAt : MethodName := ⟨RX0, "litPartAt", "(I)I"⟩
abbrev cX0_runTick : ByteArray := prog_2_method_7_code
def yX0_runTick : MethodName := ⟨RX0, "runTick", "(III)V"⟩
abbrev cX0_seen : ByteArray := prog_2_method_8_code
def yX0_seen : MethodName := ⟨RX0, "seen", "(I)I"⟩
abbrev cX0_glowSum : ByteArray := prog_2_method_9_code
def yX0_glowSum : MethodName := ⟨RX0, "glowSum", "()I"⟩
def RX1 : String := "ScannedDigits$History"
def TX1 : u_T := fun k => match k with
  | 0 => ("ScannedDigits$History", "rows", "[LScannedDigits$State;", true)
  | 1 => ("ScannedDigits$History", "next", "I", false)
  | _ => ("ScannedDigits$History", "size", "I", false)
def tyX1 : Nat → FieldType := fun k => match k with
  | 0 => .array (.object "ScannedDigits$State")
  | 1 => .int
  | _ => .int
abbrev wsX10 : List Cond := u_ws RX1 TX1 3
theorem nmX1 : ∀ a, a < 3 → ∀ b, b < 3 → a ≠ b → (TX1 a).2.1 ≠ (TX1 b).2.1 := by decide +kernel
theorem tyX1_ok : ∀ k, k < 3 → parseFieldDescriptor (TX1 k).2.2.1 = some (tyX1 k) := by decide +kernel
abbrev cX1_init : ByteArray := prog_3_method_1_code
def yX1_init : MethodName := ⟨RX1, "<init>", "()V"⟩
abbrev cX1_record : ByteArray := prog_3_method_2_code
def yX1_record : MethodName := ⟨RX1, "record", "(LScannedDigits$State;)V"⟩
abbrev cX1_takeBack : ByteArray := prog_3_method_3_code
def yX1_takeBack : MethodName := ⟨RX1, "takeBack", "(LScannedDigits$State;)V"⟩
def RX2 : String := "ScannedDigits$Snapshot"
def TX2 : u_T := fun k => match k with
  | 0 => ("ScannedDigits$Snapshot", "state", "LScannedDigits$State;", true)
  | _ => ("ScannedDigits$Snapshot", "isTaken", "Z", false)
def tyX2 : Nat → FieldType := fun k => match k with
  | 0 => .object "ScannedDigits$State"
  | _ => .boolean
abbrev wsX20 : List Cond := u_ws RX2 TX2 2
theorem nmX2 : ∀ a, a < 2 → ∀ b, b < 2 → a ≠ b → (TX2 a).2.1 ≠ (TX2 b).2.1 := by decide +kernel
theorem tyX2_ok : ∀ k, k < 2 → parseFieldDescriptor (TX2 k).2.2.1 = some (tyX2 k) := by decide +kernel
abbrev cX2_init : ByteArray := prog_4_method_1_code
def yX2_init : MethodName := ⟨RX2, "<init>", "()V"⟩
def RX3 : String := "ScannedDigits$State"
def TX3 : u_T := fun k => match k with
  | 0 => ("ScannedDigits$State", "digits", "[LScannedDigits$Digit;", true)
  | 1 => ("ScannedDigits$State", "digitCount", "I", false)
  | 2 => ("ScannedDigits$State", "on", "[I", true)
  | 3 => ("ScannedDigits$State", "off", "[I", true)
  | 4 => ("ScannedDigits$State", "settings", "[I", true)
  | 5 => ("ScannedDigits$State", "time", "I", false)
  | 6 => ("ScannedDigits$State", "frame", "I", false)
  | 7 => ("ScannedDigits$State", "frameTicks", "I", false)
  | 8 => ("ScannedDigits$State", "testFrames", "I", false)
  | 9 => ("ScannedDigits$State", "drivenTicks", "I", false)
  | 10 => ("ScannedDigits$State", "current", "F", false)
  | 11 => ("ScannedDigits$State", "peak", "F", false)
  | _ => ("ScannedDigits$State", "charge", "F", false)
def tyX3 : Nat → FieldType := fun k => match k with
  | 0 => .array (.object "ScannedDigits$Digit")
  | 1 => .int
  | 2 => .array .int
  | 3 => .array .int
  | 4 => .array .int
  | 5 => .int
  | 6 => .int
  | 7 => .int
  | 8 => .int
  | 9 => .int
  | 10 => .float
  | 11 => .float
  | _ => .float
abbrev wsX30 : List Cond := u_ws RX3 TX3 13
theorem nmX3 : ∀ a, a < 13 → ∀ b, b < 13 → a ≠ b → (TX3 a).2.1 ≠ (TX3 b).2.1 := by decide +kernel
theorem tyX3_ok : ∀ k, k < 13 → parseFieldDescriptor (TX3 k).2.2.1 = some (tyX3 k) := by decide +kernel
abbrev cX3_init : ByteArray := prog_5_method_1_code
def yX3_init : MethodName := ⟨RX3, "<init>", "()V"⟩
abbrev cX3_copyFrom : ByteArray := prog_5_method_2_code
def yX3_copyFrom : MethodName := ⟨RX3, "copyFrom", "(LScannedDigits$State;)V"⟩
abbrev cX3_find : ByteArray := prog_5_method_3_code
def yX3_find : MethodName := ⟨RX3, "find", "(I)LScannedDigits$Digit;"⟩
abbrev cX3_changeDigitCount : ByteArray := prog_5_method_4_code
def yX3_changeDigitCount : MethodName := ⟨RX3, "changeDigitCount", "(I)V"⟩
abbrev cX3_changeWidth : ByteArray := prog_5_method_5_code
def yX3_changeWidth : MethodName := ⟨RX3, "changeWidth", "(LScannedDigits$Digit;I)V"⟩
abbrev cX3_beginFrame : ByteArray := prog_5_method_6_code
def yX3_beginFrame : MethodName := ⟨RX3, "beginFrame", "()V"⟩
abbrev cX3_takePatterns : ByteArray := prog_5_method_7_code
def yX3_takePatterns : MethodName := ⟨RX3, "takePatterns", "([I)V"⟩
abbrev cX3_frameLength : ByteArray := prog_5_method_8_code
def yX3_frameLength : MethodName := ⟨RX3, "frameLength", "()I"⟩
abbrev cX3_slotStart : ByteArray := prog_5_method_9_code
def yX3_slotStart : MethodName := ⟨RX3, "slotStart", "(I)I"⟩
abbrev cX3_slotNow : ByteArray := prog_5_method_10_code
def yX3_slotNow : MethodName := ⟨RX3, "slotNow", "()I"⟩
abbrev cX3_isGroupOn : ByteArray := prog_5_method_11_code
def yX3_isGroupOn : MethodName := ⟨RX3, "isGroupOn", "(I)Z"⟩
abbrev cX3_digitsInGroup : ByteArray := prog_5_method_12_code
def yX3_digitsInGroup : MethodName := ⟨RX3, "digitsInGroup", "(I)I"⟩
abbrev cX3_brokenSegments : ByteArray := prog_5_method_13_code
def yX3_brokenSegments : MethodName := ⟨RX3, "brokenSegments", "()I"⟩
abbrev cX3_isDriven : ByteArray := prog_5_method_14_code
def yX3_isDriven : MethodName := ⟨RX3, "isDriven", "(I)Z"⟩
abbrev cX3_litNext : ByteArray := prog_5_method_15_code
def yX3_litNext : MethodName := ⟨RX3, "litNext", "()I"⟩
abbrev cX3_runTicks : ByteArray := prog_5_method_16_code
def yX3_runTicks : MethodName := ⟨RX3, "runTicks", "(I)I"⟩
abbrev cX3_runTick : ByteArray := prog_5_method_17_code
def yX3_runTick : MethodName := ⟨RX3, "runTick", "()I"⟩
abbrev cX3_runCurrent : ByteArray := prog_5_method_18_code
def yX3_runCurrent : MethodName := ⟨RX3, "runCurrent", "(I)V"⟩
def RX4 : String := "ScannedDigits$Text"
def TX4 : u_T := fun k => match k with
  | 0 => ("ScannedDigits$Text", "characters", "[C", true)
  | 1 => ("ScannedDigits$Text", "length", "I", false)
  | 2 => ("ScannedDigits$Text", "patterns", "[I", true)
  | _ => ("ScannedDigits$Text", "needed", "I", false)
def tyX4 : Nat → FieldType := fun k => match k with
  | 0 => .array .char
  | 1 => .int
  | 2 => .array .int
  | _ => .int
abbrev wsX40 : List Cond := u_ws RX4 TX4 4
theorem nmX4 : ∀ a, a < 4 → ∀ b, b < 4 → a ≠ b → (TX4 a).2.1 ≠ (TX4 b).2.1 := by decide +kernel
theorem tyX4_ok : ∀ k, k < 4 → parseFieldDescriptor (TX4 k).2.2.1 = some (tyX4 k) := by decide +kernel
abbrev cX4_init : ByteArray := prog_6_method_1_code
def yX4_init : MethodName := ⟨RX4, "<init>", "()V"⟩
abbrev cX4_isFull : ByteArray := prog_6_method_2_code
def yX4_isFull : MethodName := ⟨RX4, "isFull", "()Z"⟩
abbrev cX4_append : ByteArray := prog_6_method_3_code
def yX4_append : MethodName := ⟨RX4, "append", "(C)V"⟩
abbrev cX4_layOut : ByteArray := prog_6_method_4_code
def yX4_layOut : MethodName := ⟨RX4, "layOut", "(I)I"⟩
def RX5 : String := "ScannedDigits"
def TX5 : u_T := fun k => match k with
  | 0 => ("ScannedDigits", "now", "LScannedDigits$State;", true)
  | 1 => ("ScannedDigits", "future", "LScannedDigits$State;", true)
  | 2 => ("ScannedDigits", "history", "LScannedDigits$History;", true)
  | 3 => ("ScannedDigits", "snapshots", "[LScannedDigits$Snapshot;", true)
  | _ => ("ScannedDigits", "text", "LScannedDigits$Text;", true)
def tyX5 : Nat → FieldType := fun k => match k with
  | 0 => .object "ScannedDigits$State"
  | 1 => .object "ScannedDigits$State"
  | 2 => .object "ScannedDigits$History"
  | 3 => .array (.object "ScannedDigits$Snapshot")
  | _ => .object "ScannedDigits$Text"
abbrev wsX50 : List Cond := u_ws RX5 TX5 5
theorem nmX5 : ∀ a, a < 5 → ∀ b, b < 5 → a ≠ b → (TX5 a).2.1 ≠ (TX5 b).2.1 := by decide +kernel
theorem tyX5_ok : ∀ k, k < 5 → parseFieldDescriptor (TX5 k).2.2.1 = some (tyX5 k) := by decide +kernel
abbrev cX5_init : ByteArray := prog_1_method_1_code
def yX5_init : MethodName := ⟨RX5, "<init>", "()V"⟩
abbrev cX5_setDigits : ByteArray := prog_1_method_2_code
def yX5_setDigits : MethodName := ⟨RX5, "setDigits", "(I)I"⟩
abbrev cX5_setWidth : ByteArray := prog_1_method_3_code
def yX5_setWidth : MethodName := ⟨RX5, "setWidth", "(II)I"⟩
abbrev cX5_setGuard : ByteArray := prog_1_method_4_code
def yX5_setGuard : MethodName := ⟨RX5, "setGuard", "(II)I"⟩
abbrev cX5_setBrightness : ByteArray := prog_1_method_5_code
def yX5_setBrightness : MethodName := ⟨RX5, "setBrightness", "(II)I"⟩
abbrev cX5_setPattern : ByteArray := prog_1_method_6_code
def yX5_setPattern : MethodName := ⟨RX5, "setPattern", "(II)I"⟩
abbrev cX5_setGroup : ByteArray := prog_1_method_7_code
def yX5_setGroup : MethodName := ⟨RX5, "setGroup", "(II)I"⟩
abbrev cX5_setBlink : ByteArray := prog_1_method_8_code
def yX5_setBlink : MethodName := ⟨RX5, "setBlink", "(III)I"⟩
abbrev cX5_set : ByteArray := prog_1_method_9_code
def yX5_set : MethodName := ⟨RX5, "set", "(II)I"⟩
abbrev cX5_replace : ByteArray := prog_1_method_10_code
def yX5_replace : MethodName := ⟨RX5, "replace", "(I)I"⟩
abbrev cX5_test : ByteArray := prog_1_method_11_code
def yX5_test : MethodName := ⟨RX5, "test", "(I)I"⟩
abbrev cX5_pass : ByteArray := prog_1_method_12_code
def yX5_pass : MethodName := ⟨RX5, "pass", "(I)I"⟩
abbrev cX5_passFrames : ByteArray := prog_1_method_13_code
def yX5_passFrames : MethodName := ⟨RX5, "passFrames", "(I)I"⟩
abbrev cX5_type : ByteArray := prog_1_method_14_code
def yX5_type : MethodName := ⟨RX5, "type", "(C)I"⟩
abbrev cX5_clearText : ByteArray := prog_1_method_15_code
def yX5_clearText : MethodName := ⟨RX5, "clearText", "()I"⟩
abbrev cX5_show : ByteArray := prog_1_method_16_code
def yX5_show : MethodName := ⟨RX5, "show", "()I"⟩
abbrev cX5_undo : ByteArray := prog_1_method_17_code
def yX5_undo : MethodName := ⟨RX5, "undo", "()I"⟩
abbrev cX5_keep : ByteArray := prog_1_method_18_code
def yX5_keep : MethodName := ⟨RX5, "keep", "(I)I"⟩
abbrev cX5_restore : ByteArray := prog_1_method_19_code
def yX5_restore : MethodName := ⟨RX5, "restore", "(I)I"⟩
abbrev cX5_digit : ByteArray := prog_1_method_20_code
def yX5_digit : MethodName := ⟨RX5, "digit", "(II)I"⟩
abbrev cX5_segment : ByteArray := prog_1_method_21_code
def yX5_segment : MethodName := ⟨RX5, "segment", "(III)I"⟩
abbrev cX5_litIn : ByteArray := prog_1_method_22_code
def yX5_litIn : MethodName := ⟨RX5, "litIn", "(II)I"⟩
abbrev cX5_steadyGlow : ByteArray := prog_1_method_23_code
def yX5_steadyGlow : MethodName := ⟨RX5, "steadyGlow", "(I)I"⟩
abbrev cX5_current : ByteArray := prog_1_method_24_code
def yX5_current : MethodName := ⟨RX5, "current", "(I)F"⟩
abbrev cX5_thousandths : ByteArray := prog_1_method_25_code
def yX5_thousandths : MethodName := ⟨RX5, "thousandths", "(I)I"⟩
abbrev cX5_duty : ByteArray := prog_1_method_26_code
def yX5_duty : MethodName := ⟨RX5, "duty", "(I)F"⟩
abbrev cX5_count : ByteArray := prog_1_method_27_code
def yX5_count : MethodName := ⟨RX5, "count", "(I)I"⟩
abbrev cX5_group : ByteArray := prog_1_method_28_code
def yX5_group : MethodName := ⟨RX5, "group", "(II)I"⟩
abbrev cX5_isWithin : ByteArray := prog_1_method_29_code
def yX5_isWithin : MethodName := ⟨RX5, "isWithin", "(III)Z"⟩
abbrev cX5_characterOf : ByteArray := prog_1_method_30_code
def yX5_characterOf : MethodName := ⟨RX5, "characterOf", "(I)I"⟩
abbrev cX5_patternOf : ByteArray := prog_1_method_31_code
def yX5_patternOf : MethodName := ⟨RX5, "patternOf", "(C)I"⟩
abbrev cX5_glowLit : ByteArray := prog_1_method_32_code
def yX5_glowLit : MethodName := ⟨RX5, "glowLit", "(I)I"⟩
abbrev cX5_glowUnlit : ByteArray := prog_1_method_33_code
def yX5_glowUnlit : MethodName := ⟨RX5, "glowUnlit", "(II)I"⟩
abbrev cX5_glowOfFrames : ByteArray := prog_1_method_34_code
def yX5_glowOfFrames : MethodName := ⟨RX5, "glowOfFrames", "(III)I"⟩
def RX6 : String := "ScannedDigitsModel"
def TX6 : u_T := fun k => match k with
  | 0 => ("ScannedDigitsModel", "row", "[I", true)
  | 1 => ("ScannedDigitsModel", "flow", "[F", true)
  | 2 => ("ScannedDigitsModel", "scratch", "[I", true)
  | 3 => ("ScannedDigitsModel", "scratchFlow", "[F", true)
  | 4 => ("ScannedDigitsModel", "history", "[I", true)
  | 5 => ("ScannedDigitsModel", "historyFlow", "[F", true)
  | 6 => ("ScannedDigitsModel", "kept", "I", false)
  | 7 => ("ScannedDigitsModel", "slots", "[I", true)
  | 8 => ("ScannedDigitsModel", "slotFlow", "[F", true)
  | 9 => ("ScannedDigitsModel", "isKept", "[Z", true)
  | 10 => ("ScannedDigitsModel", "typed", "I", false)
  | 11 => ("ScannedDigitsModel", "text", "[C", true)
  | _ => ("ScannedDigitsModel", "read", "[I", true)
def tyX6 : Nat → FieldType := fun k => match k with
  | 0 => .array .int
  | 1 => .array .float
  | 2 => .array .int
  | 3 => .array .float
  | 4 => .array .int
  | 5 => .array .float
  | 6 => .int
  | 7 => .array .int
  | 8 => .array .float
  | 9 => .array .boolean
  | 10 => .int
  | 11 => .array .char
  | _ => .array .int
abbrev wsX60 : List Cond := u_ws RX6 TX6 13
theorem nmX6 : ∀ a, a < 13 → ∀ b, b < 13 → a ≠ b → (TX6 a).2.1 ≠ (TX6 b).2.1 := by decide +kernel
theorem tyX6_ok : ∀ k, k < 13 → parseFieldDescriptor (TX6 k).2.2.1 = some (tyX6 k) := by decide +kernel
abbrev cX6_init : ByteArray := prog_8_method_1_code
def yX6_init : MethodName := ⟨RX6, "<init>", "()V"⟩
abbrev cX6_in : ByteArray := prog_8_method_2_code
def yX6_in : MethodName := ⟨RX6, "in", "(III)Z"⟩
abbrev cX6_begin : ByteArray := prog_8_method_3_code
def yX6_begin : MethodName := ⟨RX6, "begin", "()V"⟩
abbrev cX6_goBack : ByteArray := prog_8_method_4_code
def yX6_goBack : MethodName := ⟨RX6, "goBack", "()V"⟩
abbrev cX6_done : ByteArray := prog_8_method_5_code
def yX6_done : MethodName := ⟨RX6, "done", "(I)I"⟩
abbrev cX6_undo : ByteArray := prog_8_method_6_code
def yX6_undo : MethodName := ⟨RX6, "undo", "()I"⟩
abbrev cX6_keep : ByteArray := prog_8_method_7_code
def yX6_keep : MethodName := ⟨RX6, "keep", "(I)I"⟩
abbrev cX6_restore : ByteArray := prog_8_method_8_code
def yX6_restore : MethodName := ⟨RX6, "restore", "(I)I"⟩
abbrev cX6_of : ByteArray := prog_8_method_9_code
def yX6_of : MethodName := ⟨RX6, "of", "(II)I"⟩
abbrev cX6_put : ByteArray := prog_8_method_10_code
def yX6_put : MethodName := ⟨RX6, "put", "(III)V"⟩
abbrev cX6_begins : ByteArray := prog_8_method_11_code
def yX6_begins : MethodName := ⟨RX6, "begins", "(I)V"⟩
abbrev cX6_renew : ByteArray := prog_8_method_12_code
def yX6_renew : MethodName := ⟨RX6, "renew", "(I)V"⟩
abbrev cX6_noDigit : ByteArray := prog_8_method_13_code
def yX6_noDigit : MethodName := ⟨RX6, "noDigit", "(I)Z"⟩
abbrev cX6_litPart : ByteArray := prog_8_method_14_code
def yX6_litPart : MethodName := ⟨RX6, "litPart", "(I)I"⟩
abbrev cX6_beginOf : ByteArray := prog_8_method_15_code
def yX6_beginOf : MethodName := ⟨RX6, "beginOf", "(I)I"⟩
abbrev cX6_frameLength : ByteArray := prog_8_method_16_code
def yX6_frameLength : MethodName := ⟨RX6, "frameLength", "()I"⟩
abbrev cX6_endFrame : ByteArray := prog_8_method_17_code
def yX6_endFrame : MethodName := ⟨RX6, "endFrame", "()V"⟩
abbrev cX6_setDigits : ByteArray := prog_8_method_18_code
def yX6_setDigits : MethodName := ⟨RX6, "setDigits", "(I)I"⟩
abbrev cX6_setWidth : ByteArray := prog_8_method_19_code
def yX6_setWidth : MethodName := ⟨RX6, "setWidth", "(II)I"⟩
abbrev cX6_setGuard : ByteArray := prog_8_method_20_code
def yX6_setGuard : MethodName := ⟨RX6, "setGuard", "(II)I"⟩
abbrev cX6_setBrightness : ByteArray := prog_8_method_21_code
def yX6_setBrightness : MethodName := ⟨RX6, "setBrightness", "(II)I"⟩
abbrev cX6_setPattern : ByteArray := prog_8_method_22_code
def yX6_setPattern : MethodName := ⟨RX6, "setPattern", "(II)I"⟩
abbrev cX6_setGroup : ByteArray := prog_8_method_23_code
def yX6_setGroup : MethodName := ⟨RX6, "setGroup", "(II)I"⟩
abbrev cX6_digitsIn : ByteArray := prog_8_method_24_code
def yX6_digitsIn : MethodName := ⟨RX6, "digitsIn", "(I)I"⟩
abbrev cX6_setBlink : ByteArray := prog_8_method_25_code
def yX6_setBlink : MethodName := ⟨RX6, "setBlink", "(III)I"⟩
abbrev cX6_set : ByteArray := prog_8_method_26_code
def yX6_set : MethodName := ⟨RX6, "set", "(II)I"⟩
abbrev cX6_brokenOf : ByteArray := prog_8_method_27_code
def yX6_brokenOf : MethodName := ⟨RX6, "brokenOf", "(I)I"⟩
abbrev cX6_replace : ByteArray := prog_8_method_28_code
def yX6_replace : MethodName := ⟨RX6, "replace", "(I)I"⟩
abbrev cX6_test : ByteArray := prog_8_method_29_code
def yX6_test : MethodName := ⟨RX6, "test", "(I)I"⟩
abbrev cX6_isOn : ByteArray := prog_8_method_30_code
def yX6_isOn : MethodName := ⟨RX6, "isOn", "(I)Z"⟩
abbrev cX6_slotNow : ByteArray := prog_8_method_31_code
def yX6_slotNow : MethodName := ⟨RX6, "slotNow", "()I"⟩
abbrev cX6_isDriven : ByteArray := prog_8_method_32_code
def yX6_isDriven : MethodName := ⟨RX6, "isDriven", "(I)Z"⟩
abbrev cX6_litNow : ByteArray := prog_8_method_33_code
def yX6_litNow : MethodName := ⟨RX6, "litNow", "(I)I"⟩
abbrev cX6_brighter : ByteArray := prog_8_method_34_code
def yX6_brighter : MethodName := ⟨RX6, "brighter", "(I)I"⟩
abbrev cX6_darker : ByteArray := prog_8_method_35_code
def yX6_darker : MethodName := ⟨RX6, "darker", "(I)I"⟩
abbrev cX6_light : ByteArray := prog_8_method_36_code
def yX6_light : MethodName := ⟨RX6, "light", "(IIZ)V"⟩
abbrev cX6_tick : ByteArray := prog_8_method_37_code
def yX6_tick : MethodName := ⟨RX6, "tick", "()I"⟩
abbrev cX6_pass : ByteArray := prog_8_method_38_code
def yX6_pass : MethodName := ⟨RX6, "pass", "(I)I"⟩
abbrev cX6_passFrames : ByteArray := prog_8_method_39_code
def yX6_passFrames : MethodName := ⟨RX6, "passFrames", "(I)I"⟩
abbrev cX6_type : ByteArray := prog_8_method_40_code
def yX6_type : MethodName := ⟨RX6, "type", "(C)I"⟩
abbrev cX6_clearText : ByteArray := prog_8_method_41_code
def yX6_clearText : MethodName := ⟨RX6, "clearText", "()I"⟩
abbrev cX6_patternOf : ByteArray := prog_8_method_42_code
def yX6_patternOf : MethodName := ⟨RX6, "patternOf", "(C)I"⟩
abbrev cX6_charOf : ByteArray := prog_8_method_43_code
def yX6_charOf : MethodName := ⟨RX6, "charOf", "(I)I"⟩
abbrev cX6_show : ByteArray := prog_8_method_44_code
def yX6_show : MethodName := ⟨RX6, "show", "()I"⟩
abbrev cX6_seenOf : ByteArray := prog_8_method_45_code
def yX6_seenOf : MethodName := ⟨RX6, "seenOf", "(I)I"⟩
abbrev cX6_glowOf : ByteArray := prog_8_method_46_code
def yX6_glowOf : MethodName := ⟨RX6, "glowOf", "(I)I"⟩
abbrev cX6_digit : ByteArray := prog_8_method_47_code
def yX6_digit : MethodName := ⟨RX6, "digit", "(II)I"⟩
abbrev cX6_segment : ByteArray := prog_8_method_48_code
def yX6_segment : MethodName := ⟨RX6, "segment", "(III)I"⟩
abbrev cX6_litIn : ByteArray := prog_8_method_49_code
def yX6_litIn : MethodName := ⟨RX6, "litIn", "(II)I"⟩
abbrev cX6_steadyGlow : ByteArray := prog_8_method_50_code
def yX6_steadyGlow : MethodName := ⟨RX6, "steadyGlow", "(I)I"⟩
abbrev cX6_current : ByteArray := prog_8_method_51_code
def yX6_current : MethodName := ⟨RX6, "current", "(I)F"⟩
abbrev cX6_thousandths : ByteArray := prog_8_method_52_code
def yX6_thousandths : MethodName := ⟨RX6, "thousandths", "(I)I"⟩
abbrev cX6_duty : ByteArray := prog_8_method_53_code
def yX6_duty : MethodName := ⟨RX6, "duty", "(I)F"⟩
abbrev cX6_broken : ByteArray := prog_8_method_54_code
def yX6_broken : MethodName := ⟨RX6, "broken", "()I"⟩
abbrev cX6_count : ByteArray := prog_8_method_55_code
def yX6_count : MethodName := ⟨RX6, "count", "(I)I"⟩
abbrev cX6_group : ByteArray := prog_8_method_56_code
def yX6_group : MethodName := ⟨RX6, "group", "(II)I"⟩
def RJx8e188 : String := "java/lang/Cloneable"
def TJx8e188 : u_T := fun k => match k with
  | _ => ("", "", "", false)
def tyJx8e188 : Nat → FieldType := fun k => match k with
  | _ => .int
abbrev wsJx8e1880 : List Cond := u_ws RJx8e188 TJx8e188 0
theorem nmJx8e188 : ∀ a, a < 0 → ∀ b, b < 0 → a ≠ b → (TJx8e188 a).2.1 ≠ (TJx8e188 b).2.1 := by decide +kernel
theorem tyJx8e188_ok : ∀ k, k < 0 → parseFieldDescriptor (TJx8e188 k).2.2.1 = some (tyJx8e188 k) := by decide +kernel
def RJ6 : String := "java/lang/Integer"
def TJ6 : u_T := fun k => match k with
  | _ => ("", "", "", false)
def tyJ6 : Nat → FieldType := fun k => match k with
  | _ => .int
abbrev wsJ60 : List Cond := u_ws RJ6 TJ6 0
theorem nmJ6 : ∀ a, a < 0 → ∀ b, b < 0 → a ≠ b → (TJ6 a).2.1 ≠ (TJ6 b).2.1 := by decide +kernel
theorem tyJ6_ok : ∀ k, k < 0 → parseFieldDescriptor (TJ6 k).2.2.1 = some (tyJ6 k) := by decide +kernel
abbrev cJ6_bitCount_0f7a4 : ByteArray := prog_10_method_49_code
def yJ6_bitCount_0f7a4 : MethodName := ⟨RJ6, "bitCount", "(I)I"⟩
def RJ9 : String := "java/lang/Math"
def TJ9 : u_T := fun k => match k with
  | _ => ("", "", "", false)
def tyJ9 : Nat → FieldType := fun k => match k with
  | _ => .int
abbrev wsJ90 : List Cond := u_ws RJ9 TJ9 0
theorem nmJ9 : ∀ a, a < 0 → ∀ b, b < 0 → a ≠ b → (TJ9 a).2.1 ≠ (TJ9 b).2.1 := by decide +kernel
theorem tyJ9_ok : ∀ k, k < 0 → parseFieldDescriptor (TJ9 k).2.2.1 = some (tyJ9 k) := by decide +kernel
abbrev cJ9_max_7cf53 : ByteArray := prog_11_method_65_code
def yJ9_max_7cf53 : MethodName := ⟨RJ9, "max", "(II)I"⟩
abbrev cJ9_min_7cf53 : ByteArray := prog_11_method_69_code
def yJ9_min_7cf53 : MethodName := ⟨RJ9, "min", "(II)I"⟩
def RJ10 : String := "java/lang/System"
def TJ10 : u_T := fun k => match k with
  | _ => ("", "", "", false)
def tyJ10 : Nat → FieldType := fun k => match k with
  | _ => .int
abbrev wsJ100 : List Cond := u_ws RJ10 TJ10 0
theorem nmJ10 : ∀ a, a < 0 → ∀ b, b < 0 → a ≠ b → (TJ10 a).2.1 ≠ (TJ10 b).2.1 := by decide +kernel
theorem tyJ10_ok : ∀ k, k < 0 → parseFieldDescriptor (TJ10 k).2.2.1 = some (tyJ10 k) := by decide +kernel
def RL : String := "ScannedDigitsLaw"
abbrev cL_law : ByteArray := code
def yL_law : MethodName := ⟨RL, "law", "([I)Z"⟩
def wsX0_renewSegments : List Cond := .code yX0_renewSegments cX0_renewSegments 2 none :: ([.fieldLink RX0 43 "ScannedDigits$Digit" "broken" "I", .fieldLink RX0 9 "ScannedDigits$Digit" "glow" "[I", .fieldLink RX0 15 "ScannedDigits$Digit" "use" "[I"] ++ wsX00)
def wsX0_makeNew : List Cond := .code yX0_makeNew cX0_makeNew 1 none :: ([.fieldLink RX0 21 "ScannedDigits$Digit" "width" "I", .fieldLink RX0 25 "ScannedDigits$Digit" "guard" "I", .fieldLink RX0 28 "ScannedDigits$Digit" "brightness" "I", .fieldLink RX0 31 "ScannedDigits$Digit" "pattern" "I", .fieldLink RX0 34 "ScannedDigits$Digit" "group" "I", .fieldLink RX0 37 "ScannedDigits$Digit" "drivenTicks" "I", .methodLink RX0 40 yX0_renewSegments, .instanceMethod yX0_renewSegments, .selects RX0 yX0_renewSegments yX0_renewSegments, .initialized RX0, .code yX0_renewSegments cX0_renewSegments 2 none, .fieldLink RX0 43 "ScannedDigits$Digit" "broken" "I", .fieldLink RX0 9 "ScannedDigits$Digit" "glow" "[I", .fieldLink RX0 15 "ScannedDigits$Digit" "use" "[I"] ++ wsX00)
def wsX0_init : List Cond := .code yX0_init cX0_init 1 none :: ([.methodLink RX0 3 objectInit, .instanceMethod objectInit, .code objectInit ⟨#[0xb1]⟩ 1 none, .arrayClass .int, .fieldLink RX0 9 "ScannedDigits$Digit" "glow" "[I", .fieldLink RX0 15 "ScannedDigits$Digit" "use" "[I", .methodLink RX0 18 yX0_makeNew, .instanceMethod yX0_makeNew, .selects RX0 yX0_makeNew yX0_makeNew, .initialized RX0, .code yX0_makeNew cX0_makeNew 1 none, .fieldLink RX0 21 "ScannedDigits$Digit" "width" "I", .fieldLink RX0 25 "ScannedDigits$Digit" "guard" "I", .fieldLink RX0 28 "ScannedDigits$Digit" "brightness" "I", .fieldLink RX0 31 "ScannedDigits$Digit" "pattern" "I", .fieldLink RX0 34 "ScannedDigits$Digit" "group" "I", .fieldLink RX0 37 "ScannedDigits$Digit" "drivenTicks" "I", .methodLink RX0 40 yX0_renewSegments, .instanceMethod yX0_renewSegments, .selects RX0 yX0_renewSegments yX0_renewSegments, .code yX0_renewSegments cX0_renewSegments 2 none, .fieldLink RX0 43 "ScannedDigits$Digit" "broken" "I"] ++ wsX00)
def wsX0_copyFrom : List Cond := .code yX0_copyFrom cX0_copyFrom 2 none :: ([.fieldLink RX0 21 "ScannedDigits$Digit" "width" "I", .fieldLink RX0 25 "ScannedDigits$Digit" "guard" "I", .fieldLink RX0 28 "ScannedDigits$Digit" "brightness" "I", .fieldLink RX0 31 "ScannedDigits$Digit" "pattern" "I", .fieldLink RX0 34 "ScannedDigits$Digit" "group" "I", .fieldLink RX0 37 "ScannedDigits$Digit" "drivenTicks" "I", .fieldLink RX0 43 "ScannedDigits$Digit" "broken" "I", .fieldLink RX0 9 "ScannedDigits$Digit" "glow" "[I", .methodLink RX0 46 arraycopyName, .native arraycopyName, .static arraycopyName, .initialized "java/lang/System", .fieldLink RX0 15 "ScannedDigits$Digit" "use" "[I"] ++ wsX00)
def wsX0_litPartAt : List Cond := .code yX0_litPartAt cX0_litPartAt 2 (some .int) :: ([.fieldLink RX0 21 "ScannedDigits$Digit" "width" "I", .fieldLink RX0 25 "ScannedDigits$Digit" "guard" "I"] ++ wsX00)
def wsX0_litPart : List Cond := .code yX0_litPart cX0_litPart 1 (some .int) :: ([.fieldLink RX0 28 "ScannedDigits$Digit" "brightness" "I", .methodLink RX0 52 yX0_litPartAt, .instanceMethod yX0_litPartAt, .selects RX0 yX0_litPartAt yX0_litPartAt, .initialized RX0, .code yX0_litPartAt cX0_litPartAt 2 (some .int), .fieldLink RX0 21 "ScannedDigits$Digit" "width" "I", .fieldLink RX0 25 "ScannedDigits$Digit" "guard" "I"] ++ wsX00)
def wsX5_glowUnlit : List Cond := .code yX5_glowUnlit cX5_glowUnlit 3 (some .int) :: ([.methodLink RX5 234 Lib.Math.max.name, .static Lib.Math.max.name, .initialized "java/lang/Math", .code Lib.Math.max.name Lib.Math.max.code 2 (some .int)])
def wsX5_glowLit : List Cond := .code yX5_glowLit cX5_glowLit 2 (some .int) :: ([.methodLink RX5 234 Lib.Math.max.name, .static Lib.Math.max.name, .initialized "java/lang/Math", .code Lib.Math.max.name Lib.Math.max.code 2 (some .int), .methodLink RX5 240 Lib.Math.min.name, .static Lib.Math.min.name, .code Lib.Math.min.name Lib.Math.min.code 2 (some .int)])
def wsX0_runTick : List Cond := .code yX0_runTick cX0_runTick 5 none :: ([.fieldLink RX0 9 "ScannedDigits$Digit" "glow" "[I", .fieldLink RX0 15 "ScannedDigits$Digit" "use" "[I", .fieldLink RX0 43 "ScannedDigits$Digit" "broken" "I", .static yX5_glowUnlit, .initialized RX5, .code yX5_glowUnlit cX5_glowUnlit 3 (some .int), .methodLink RX5 234 Lib.Math.max.name, .static Lib.Math.max.name, .initialized "java/lang/Math", .code Lib.Math.max.name Lib.Math.max.code 2 (some .int), .static yX5_glowLit, .code yX5_glowLit cX5_glowLit 2 (some .int), .methodLink RX5 240 Lib.Math.min.name, .static Lib.Math.min.name, .code Lib.Math.min.name Lib.Math.min.code 2 (some .int)] ++ wsX00)
def wsX0_seen : List Cond := .code yX0_seen cX0_seen 4 (some .int) :: ([.fieldLink RX0 9 "ScannedDigits$Digit" "glow" "[I"] ++ wsX00)
def wsX0_glowSum : List Cond := .code yX0_glowSum cX0_glowSum 3 (some .int) :: ([.fieldLink RX0 9 "ScannedDigits$Digit" "glow" "[I"] ++ wsX00)
def wsX3_init_r1 : List Cond := [Cond.methodLink RX3 3 objectInit, Cond.instanceMethod objectInit, Cond.code objectInit ⟨#[0xb1]⟩ 1 none, Cond.classLink RX3 9 RX0, Cond.fieldLink RX3 11 "ScannedDigits$State" "digits" "[LScannedDigits$Digit;", Cond.fieldLink RX3 17 "ScannedDigits$State" "digitCount" "I", Cond.arrayClass .int, Cond.fieldLink RX3 21 "ScannedDigits$State" "on" "[I", Cond.fieldLink RX3 25 "ScannedDigits$State" "off" "[I", Cond.methodLink RX3 31 ⟨"[I", "clone", "()Ljava/lang/Object;"⟩, Cond.sameMethod "[I" "java/lang/Object" "clone" "()Ljava/lang/Object;", Cond.native ⟨"java/lang/Object", "clone", "()Ljava/lang/Object;"⟩, Cond.instanceMethod ⟨"java/lang/Object", "clone", "()Ljava/lang/Object;"⟩, Cond.selects "[I" ⟨"[I", "clone", "()Ljava/lang/Object;"⟩ ⟨"java/lang/Object", "clone", "()Ljava/lang/Object;"⟩, Cond.classLink RX3 32 "[I", Cond.fieldLink RX3 36 "ScannedDigits$State" "settings" "[I", Cond.instantiable RX0 9, Cond.initialized RX0, Cond.methodLink RX3 39 yX0_init, Cond.instanceMethod yX0_init, Cond.code yX0_init cX0_init 1 none, Cond.methodLink RX0 3 objectInit, Cond.fieldLink RX0 9 "ScannedDigits$Digit" "glow" "[I", Cond.fieldLink RX0 15 "ScannedDigits$Digit" "use" "[I"]
def wsX3_init_r2 : List Cond := [Cond.methodLink RX0 18 yX0_makeNew, Cond.instanceMethod yX0_makeNew, Cond.selects RX0 yX0_makeNew yX0_makeNew, Cond.code yX0_makeNew cX0_makeNew 1 none, Cond.fieldLink RX0 21 "ScannedDigits$Digit" "width" "I", Cond.fieldLink RX0 25 "ScannedDigits$Digit" "guard" "I", Cond.fieldLink RX0 28 "ScannedDigits$Digit" "brightness" "I", Cond.fieldLink RX0 31 "ScannedDigits$Digit" "pattern" "I", Cond.fieldLink RX0 34 "ScannedDigits$Digit" "group" "I", Cond.fieldLink RX0 37 "ScannedDigits$Digit" "drivenTicks" "I", Cond.methodLink RX0 40 yX0_renewSegments, Cond.instanceMethod yX0_renewSegments, Cond.selects RX0 yX0_renewSegments yX0_renewSegments, Cond.code yX0_renewSegments cX0_renewSegments 2 none, Cond.fieldLink RX0 43 "ScannedDigits$Digit" "broken" "I"]
def wsX3_init : List Cond := .code yX3_init cX3_init 2 none :: ((wsX3_init_r1 ++ wsX3_init_r2) ++ wsX30 ++ wsX00)
def wsX1_init_r1 : List Cond := [Cond.methodLink RX1 3 objectInit, Cond.instanceMethod objectInit, Cond.code objectInit ⟨#[0xb1]⟩ 1 none, Cond.classLink RX1 9 RX3, Cond.fieldLink RX1 11 "ScannedDigits$History" "rows" "[LScannedDigits$State;", Cond.instantiable RX3 13, Cond.initialized RX3, Cond.methodLink RX1 17 yX3_init, Cond.instanceMethod yX3_init, Cond.code yX3_init cX3_init 2 none, Cond.methodLink RX3 3 objectInit, Cond.classLink RX3 9 RX0, Cond.fieldLink RX3 11 "ScannedDigits$State" "digits" "[LScannedDigits$Digit;", Cond.fieldLink RX3 17 "ScannedDigits$State" "digitCount" "I", Cond.arrayClass .int, Cond.fieldLink RX3 21 "ScannedDigits$State" "on" "[I", Cond.fieldLink RX3 25 "ScannedDigits$State" "off" "[I", Cond.methodLink RX3 31 ⟨"[I", "clone", "()Ljava/lang/Object;"⟩, Cond.sameMethod "[I" "java/lang/Object" "clone" "()Ljava/lang/Object;", Cond.native ⟨"java/lang/Object", "clone", "()Ljava/lang/Object;"⟩, Cond.instanceMethod ⟨"java/lang/Object", "clone", "()Ljava/lang/Object;"⟩, Cond.selects "[I" ⟨"[I", "clone", "()Ljava/lang/Object;"⟩ ⟨"java/lang/Object", "clone", "()Ljava/lang/Object;"⟩, Cond.classLink RX3 32 "[I", Cond.fieldLink RX3 36 "ScannedDigits$State" "settings" "[I"]
def wsX1_init_r2 : List Cond := [Cond.instantiable RX0 9, Cond.initialized RX0, Cond.methodLink RX3 39 yX0_init, Cond.instanceMethod yX0_init, Cond.code yX0_init cX0_init 1 none, Cond.methodLink RX0 3 objectInit, Cond.fieldLink RX0 9 "ScannedDigits$Digit" "glow" "[I", Cond.fieldLink RX0 15 "ScannedDigits$Digit" "use" "[I", Cond.methodLink RX0 18 yX0_makeNew, Cond.instanceMethod yX0_makeNew, Cond.selects RX0 yX0_makeNew yX0_makeNew, Cond.code yX0_makeNew cX0_makeNew 1 none, Cond.fieldLink RX0 21 "ScannedDigits$Digit" "width" "I", Cond.fieldLink RX0 25 "ScannedDigits$Digit" "guard" "I", Cond.fieldLink RX0 28 "ScannedDigits$Digit" "brightness" "I", Cond.fieldLink RX0 31 "ScannedDigits$Digit" "pattern" "I", Cond.fieldLink RX0 34 "ScannedDigits$Digit" "group" "I", Cond.fieldLink RX0 37 "ScannedDigits$Digit" "drivenTicks" "I", Cond.methodLink RX0 40 yX0_renewSegments, Cond.instanceMethod yX0_renewSegments, Cond.selects RX0 yX0_renewSegments yX0_renewSegments, Cond.code yX0_renewSegments cX0_renewSegments 2 none, Cond.fieldLink RX0 43 "ScannedDigits$Digit" "broken" "I"]
def wsX1_init : List Cond := .code yX1_init cX1_init 2 none :: ((wsX1_init_r1 ++ wsX1_init_r2) ++ wsX10 ++ wsX30 ++ wsX00)
def wsX3_copyFrom_r1 : List Cond := [Cond.fieldLink RX3 11 "ScannedDigits$State" "digits" "[LScannedDigits$Digit;", Cond.fieldLink RX3 17 "ScannedDigits$State" "digitCount" "I", Cond.fieldLink RX3 21 "ScannedDigits$State" "on" "[I", Cond.methodLink RX3 44 arraycopyName, Cond.native arraycopyName, Cond.static arraycopyName, Cond.initialized "java/lang/System", Cond.fieldLink RX3 25 "ScannedDigits$State" "off" "[I", Cond.fieldLink RX3 36 "ScannedDigits$State" "settings" "[I", Cond.fieldLink RX3 50 "ScannedDigits$State" "time" "I", Cond.fieldLink RX3 53 "ScannedDigits$State" "frame" "I", Cond.fieldLink RX3 56 "ScannedDigits$State" "frameTicks" "I", Cond.fieldLink RX3 59 "ScannedDigits$State" "testFrames" "I", Cond.fieldLink RX3 62 "ScannedDigits$State" "drivenTicks" "I", Cond.fieldLink RX3 65 "ScannedDigits$State" "current" "F", Cond.fieldLink RX3 69 "ScannedDigits$State" "peak" "F", Cond.fieldLink RX3 72 "ScannedDigits$State" "charge" "F", Cond.methodLink RX3 40 yX0_copyFrom, Cond.instanceMethod yX0_copyFrom, Cond.selects RX0 yX0_copyFrom yX0_copyFrom, Cond.initialized RX0, Cond.code yX0_copyFrom cX0_copyFrom 2 none, Cond.fieldLink RX0 21 "ScannedDigits$Digit" "width" "I", Cond.fieldLink RX0 25 "ScannedDigits$Digit" "guard" "I"]
def wsX3_copyFrom_r2 : List Cond := [Cond.fieldLink RX0 28 "ScannedDigits$Digit" "brightness" "I", Cond.fieldLink RX0 31 "ScannedDigits$Digit" "pattern" "I", Cond.fieldLink RX0 34 "ScannedDigits$Digit" "group" "I", Cond.fieldLink RX0 37 "ScannedDigits$Digit" "drivenTicks" "I", Cond.fieldLink RX0 43 "ScannedDigits$Digit" "broken" "I", Cond.fieldLink RX0 9 "ScannedDigits$Digit" "glow" "[I", Cond.methodLink RX0 46 arraycopyName, Cond.fieldLink RX0 15 "ScannedDigits$Digit" "use" "[I"]
def wsX3_copyFrom : List Cond := .code yX3_copyFrom cX3_copyFrom 3 none :: ((wsX3_copyFrom_r1 ++ wsX3_copyFrom_r2) ++ wsX30 ++ wsX00)
def wsX1_record_r1 : List Cond := [Cond.fieldLink RX1 11 "ScannedDigits$History" "rows" "[LScannedDigits$State;", Cond.fieldLink RX1 18 "ScannedDigits$History" "next" "I", Cond.fieldLink RX1 26 "ScannedDigits$History" "size" "I", Cond.methodLink RX1 29 Lib.Math.min.name, Cond.static Lib.Math.min.name, Cond.initialized "java/lang/Math", Cond.code Lib.Math.min.name Lib.Math.min.code 2 (some .int), Cond.methodLink RX1 22 yX3_copyFrom, Cond.instanceMethod yX3_copyFrom, Cond.selects RX3 yX3_copyFrom yX3_copyFrom, Cond.initialized RX3, Cond.code yX3_copyFrom cX3_copyFrom 3 none, Cond.fieldLink RX3 11 "ScannedDigits$State" "digits" "[LScannedDigits$Digit;", Cond.fieldLink RX3 17 "ScannedDigits$State" "digitCount" "I", Cond.fieldLink RX3 21 "ScannedDigits$State" "on" "[I", Cond.methodLink RX3 44 arraycopyName, Cond.native arraycopyName, Cond.static arraycopyName, Cond.initialized "java/lang/System", Cond.fieldLink RX3 25 "ScannedDigits$State" "off" "[I", Cond.fieldLink RX3 36 "ScannedDigits$State" "settings" "[I", Cond.fieldLink RX3 50 "ScannedDigits$State" "time" "I", Cond.fieldLink RX3 53 "ScannedDigits$State" "frame" "I", Cond.fieldLink RX3 56 "ScannedDigits$State" "frameTicks" "I"]
def wsX1_record_r2 : List Cond := [Cond.fieldLink RX3 59 "ScannedDigits$State" "testFrames" "I", Cond.fieldLink RX3 62 "ScannedDigits$State" "drivenTicks" "I", Cond.fieldLink RX3 65 "ScannedDigits$State" "current" "F", Cond.fieldLink RX3 69 "ScannedDigits$State" "peak" "F", Cond.fieldLink RX3 72 "ScannedDigits$State" "charge" "F", Cond.methodLink RX3 40 yX0_copyFrom, Cond.instanceMethod yX0_copyFrom, Cond.selects RX0 yX0_copyFrom yX0_copyFrom, Cond.initialized RX0, Cond.code yX0_copyFrom cX0_copyFrom 2 none, Cond.fieldLink RX0 21 "ScannedDigits$Digit" "width" "I", Cond.fieldLink RX0 25 "ScannedDigits$Digit" "guard" "I", Cond.fieldLink RX0 28 "ScannedDigits$Digit" "brightness" "I", Cond.fieldLink RX0 31 "ScannedDigits$Digit" "pattern" "I", Cond.fieldLink RX0 34 "ScannedDigits$Digit" "group" "I", Cond.fieldLink RX0 37 "ScannedDigits$Digit" "drivenTicks" "I", Cond.fieldLink RX0 43 "ScannedDigits$Digit" "broken" "I", Cond.fieldLink RX0 9 "ScannedDigits$Digit" "glow" "[I", Cond.methodLink RX0 46 arraycopyName, Cond.fieldLink RX0 15 "ScannedDigits$Digit" "use" "[I"]
def wsX1_record : List Cond := .code yX1_record cX1_record 2 none :: ((wsX1_record_r1 ++ wsX1_record_r2) ++ wsX10 ++ wsX30 ++ wsX00)
def wsX1_takeBack_r1 : List Cond := [Cond.fieldLink RX1 18 "ScannedDigits$History" "next" "I", Cond.fieldLink RX1 11 "ScannedDigits$History" "rows" "[LScannedDigits$State;", Cond.fieldLink RX1 26 "ScannedDigits$History" "size" "I", Cond.methodLink RX1 22 yX3_copyFrom, Cond.instanceMethod yX3_copyFrom, Cond.selects RX3 yX3_copyFrom yX3_copyFrom, Cond.initialized RX3, Cond.code yX3_copyFrom cX3_copyFrom 3 none, Cond.fieldLink RX3 11 "ScannedDigits$State" "digits" "[LScannedDigits$Digit;", Cond.fieldLink RX3 17 "ScannedDigits$State" "digitCount" "I", Cond.fieldLink RX3 21 "ScannedDigits$State" "on" "[I", Cond.methodLink RX3 44 arraycopyName, Cond.native arraycopyName, Cond.static arraycopyName, Cond.initialized "java/lang/System", Cond.fieldLink RX3 25 "ScannedDigits$State" "off" "[I", Cond.fieldLink RX3 36 "ScannedDigits$State" "settings" "[I", Cond.fieldLink RX3 50 "ScannedDigits$State" "time" "I", Cond.fieldLink RX3 53 "ScannedDigits$State" "frame" "I", Cond.fieldLink RX3 56 "ScannedDigits$State" "frameTicks" "I", Cond.fieldLink RX3 59 "ScannedDigits$State" "testFrames" "I", Cond.fieldLink RX3 62 "ScannedDigits$State" "drivenTicks" "I", Cond.fieldLink RX3 65 "ScannedDigits$State" "current" "F", Cond.fieldLink RX3 69 "ScannedDigits$State" "peak" "F"]
def wsX1_takeBack_r2 : List Cond := [Cond.fieldLink RX3 72 "ScannedDigits$State" "charge" "F", Cond.methodLink RX3 40 yX0_copyFrom, Cond.instanceMethod yX0_copyFrom, Cond.selects RX0 yX0_copyFrom yX0_copyFrom, Cond.initialized RX0, Cond.code yX0_copyFrom cX0_copyFrom 2 none, Cond.fieldLink RX0 21 "ScannedDigits$Digit" "width" "I", Cond.fieldLink RX0 25 "ScannedDigits$Digit" "guard" "I", Cond.fieldLink RX0 28 "ScannedDigits$Digit" "brightness" "I", Cond.fieldLink RX0 31 "ScannedDigits$Digit" "pattern" "I", Cond.fieldLink RX0 34 "ScannedDigits$Digit" "group" "I", Cond.fieldLink RX0 37 "ScannedDigits$Digit" "drivenTicks" "I", Cond.fieldLink RX0 43 "ScannedDigits$Digit" "broken" "I", Cond.fieldLink RX0 9 "ScannedDigits$Digit" "glow" "[I", Cond.methodLink RX0 46 arraycopyName, Cond.fieldLink RX0 15 "ScannedDigits$Digit" "use" "[I"]
def wsX1_takeBack : List Cond := .code yX1_takeBack cX1_takeBack 2 none :: ((wsX1_takeBack_r1 ++ wsX1_takeBack_r2) ++ wsX10 ++ wsX30 ++ wsX00)
def wsX2_init_r1 : List Cond := [Cond.methodLink RX2 1 objectInit, Cond.instanceMethod objectInit, Cond.code objectInit ⟨#[0xb1]⟩ 1 none, Cond.classLink RX2 7 RX3, Cond.instantiable RX3 13, Cond.initialized RX3, Cond.fieldLink RX2 10 "ScannedDigits$Snapshot" "state" "LScannedDigits$State;", Cond.methodLink RX2 9 yX3_init, Cond.instanceMethod yX3_init, Cond.code yX3_init cX3_init 2 none, Cond.methodLink RX3 3 objectInit, Cond.classLink RX3 9 RX0, Cond.fieldLink RX3 11 "ScannedDigits$State" "digits" "[LScannedDigits$Digit;", Cond.fieldLink RX3 17 "ScannedDigits$State" "digitCount" "I", Cond.arrayClass .int, Cond.fieldLink RX3 21 "ScannedDigits$State" "on" "[I", Cond.fieldLink RX3 25 "ScannedDigits$State" "off" "[I", Cond.methodLink RX3 31 ⟨"[I", "clone", "()Ljava/lang/Object;"⟩, Cond.sameMethod "[I" "java/lang/Object" "clone" "()Ljava/lang/Object;", Cond.native ⟨"java/lang/Object", "clone", "()Ljava/lang/Object;"⟩, Cond.instanceMethod ⟨"java/lang/Object", "clone", "()Ljava/lang/Object;"⟩, Cond.selects "[I" ⟨"[I", "clone", "()Ljava/lang/Object;"⟩ ⟨"java/lang/Object", "clone", "()Ljava/lang/Object;"⟩, Cond.classLink RX3 32 "[I", Cond.fieldLink RX3 36 "ScannedDigits$State" "settings" "[I"]
def wsX2_init_r2 : List Cond := [Cond.instantiable RX0 9, Cond.initialized RX0, Cond.methodLink RX3 39 yX0_init, Cond.instanceMethod yX0_init, Cond.code yX0_init cX0_init 1 none, Cond.methodLink RX0 3 objectInit, Cond.fieldLink RX0 9 "ScannedDigits$Digit" "glow" "[I", Cond.fieldLink RX0 15 "ScannedDigits$Digit" "use" "[I", Cond.methodLink RX0 18 yX0_makeNew, Cond.instanceMethod yX0_makeNew, Cond.selects RX0 yX0_makeNew yX0_makeNew, Cond.code yX0_makeNew cX0_makeNew 1 none, Cond.fieldLink RX0 21 "ScannedDigits$Digit" "width" "I", Cond.fieldLink RX0 25 "ScannedDigits$Digit" "guard" "I", Cond.fieldLink RX0 28 "ScannedDigits$Digit" "brightness" "I", Cond.fieldLink RX0 31 "ScannedDigits$Digit" "pattern" "I", Cond.fieldLink RX0 34 "ScannedDigits$Digit" "group" "I", Cond.fieldLink RX0 37 "ScannedDigits$Digit" "drivenTicks" "I", Cond.methodLink RX0 40 yX0_renewSegments, Cond.instanceMethod yX0_renewSegments, Cond.selects RX0 yX0_renewSegments yX0_renewSegments, Cond.code yX0_renewSegments cX0_renewSegments 2 none, Cond.fieldLink RX0 43 "ScannedDigits$Digit" "broken" "I"]
def wsX2_init : List Cond := .code yX2_init cX2_init 1 none :: ((wsX2_init_r1 ++ wsX2_init_r2) ++ wsX30 ++ wsX20 ++ wsX00)
def wsX5_isWithin : List Cond := .code yX5_isWithin cX5_isWithin 3 (some .boolean) :: ([])
def wsX3_find : List Cond := .code yX3_find cX3_find 2 (some (.object "ScannedDigits$Digit")) :: ([.fieldLink RX3 17 "ScannedDigits$State" "digitCount" "I", .fieldLink RX3 11 "ScannedDigits$State" "digits" "[LScannedDigits$Digit;", .static yX5_isWithin, .initialized RX5, .code yX5_isWithin cX5_isWithin 3 (some .boolean)] ++ wsX30)
def wsX3_beginFrame : List Cond := .code yX3_beginFrame cX3_beginFrame 1 none :: ([.fieldLink RX3 53 "ScannedDigits$State" "frame" "I", .fieldLink RX3 56 "ScannedDigits$State" "frameTicks" "I", .fieldLink RX3 59 "ScannedDigits$State" "testFrames" "I"] ++ wsX30)
def wsX3_changeDigitCount_r1 : List Cond := [Cond.fieldLink RX3 17 "ScannedDigits$State" "digitCount" "I", Cond.fieldLink RX3 11 "ScannedDigits$State" "digits" "[LScannedDigits$Digit;", Cond.methodLink RX3 79 yX0_makeNew, Cond.instanceMethod yX0_makeNew, Cond.selects RX0 yX0_makeNew yX0_makeNew, Cond.initialized RX0, Cond.code yX0_makeNew cX0_makeNew 1 none, Cond.fieldLink RX0 21 "ScannedDigits$Digit" "width" "I", Cond.fieldLink RX0 25 "ScannedDigits$Digit" "guard" "I", Cond.fieldLink RX0 28 "ScannedDigits$Digit" "brightness" "I", Cond.fieldLink RX0 31 "ScannedDigits$Digit" "pattern" "I", Cond.fieldLink RX0 34 "ScannedDigits$Digit" "group" "I", Cond.fieldLink RX0 37 "ScannedDigits$Digit" "drivenTicks" "I", Cond.methodLink RX0 40 yX0_renewSegments, Cond.instanceMethod yX0_renewSegments, Cond.selects RX0 yX0_renewSegments yX0_renewSegments, Cond.code yX0_renewSegments cX0_renewSegments 2 none, Cond.fieldLink RX0 43 "ScannedDigits$Digit" "broken" "I", Cond.fieldLink RX0 9 "ScannedDigits$Digit" "glow" "[I", Cond.fieldLink RX0 15 "ScannedDigits$Digit" "use" "[I", Cond.methodLink RX3 82 yX3_beginFrame, Cond.instanceMethod yX3_beginFrame, Cond.selects RX3 yX3_beginFrame yX3_beginFrame, Cond.initialized RX3]
def wsX3_changeDigitCount_r2 : List Cond := [Cond.code yX3_beginFrame cX3_beginFrame 1 none, Cond.fieldLink RX3 53 "ScannedDigits$State" "frame" "I", Cond.fieldLink RX3 56 "ScannedDigits$State" "frameTicks" "I", Cond.fieldLink RX3 59 "ScannedDigits$State" "testFrames" "I"]
def wsX3_changeDigitCount : List Cond := .code yX3_changeDigitCount cX3_changeDigitCount 3 none :: ((wsX3_changeDigitCount_r1 ++ wsX3_changeDigitCount_r2) ++ wsX30 ++ wsX00)
def wsX3_changeWidth : List Cond := .code yX3_changeWidth cX3_changeWidth 3 none :: ([.fieldLink RX3 85 "ScannedDigits$Digit" "width" "I", .methodLink RX3 82 yX3_beginFrame, .instanceMethod yX3_beginFrame, .selects RX3 yX3_beginFrame yX3_beginFrame, .initialized RX3, .code yX3_beginFrame cX3_beginFrame 1 none, .fieldLink RX3 53 "ScannedDigits$State" "frame" "I", .fieldLink RX3 56 "ScannedDigits$State" "frameTicks" "I", .fieldLink RX3 59 "ScannedDigits$State" "testFrames" "I"] ++ wsX00 ++ wsX30)
def wsX3_takePatterns : List Cond := .code yX3_takePatterns cX3_takePatterns 3 none :: ([.fieldLink RX3 17 "ScannedDigits$State" "digitCount" "I", .fieldLink RX3 11 "ScannedDigits$State" "digits" "[LScannedDigits$Digit;", .fieldLink RX3 88 "ScannedDigits$Digit" "pattern" "I"] ++ wsX30 ++ wsX00)
def wsX3_slotStart : List Cond := .code yX3_slotStart cX3_slotStart 4 (some .int) :: ([.fieldLink RX3 11 "ScannedDigits$State" "digits" "[LScannedDigits$Digit;", .fieldLink RX3 85 "ScannedDigits$Digit" "width" "I"] ++ wsX30 ++ wsX00)
def wsX3_frameLength : List Cond := .code yX3_frameLength cX3_frameLength 1 (some .int) :: ([.fieldLink RX3 17 "ScannedDigits$State" "digitCount" "I", .methodLink RX3 91 yX3_slotStart, .instanceMethod yX3_slotStart, .selects RX3 yX3_slotStart yX3_slotStart, .initialized RX3, .code yX3_slotStart cX3_slotStart 4 (some .int), .fieldLink RX3 11 "ScannedDigits$State" "digits" "[LScannedDigits$Digit;", .fieldLink RX3 85 "ScannedDigits$Digit" "width" "I"] ++ wsX30 ++ wsX00)
def wsX3_slotNow : List Cond := .code yX3_slotNow cX3_slotNow 3 (some .int) :: ([.fieldLink RX3 11 "ScannedDigits$State" "digits" "[LScannedDigits$Digit;", .fieldLink RX3 85 "ScannedDigits$Digit" "width" "I", .fieldLink RX3 17 "ScannedDigits$State" "digitCount" "I", .fieldLink RX3 56 "ScannedDigits$State" "frameTicks" "I"] ++ wsX30 ++ wsX00)
def wsX3_isGroupOn : List Cond := .code yX3_isGroupOn cX3_isGroupOn 3 (some .boolean) :: ([.fieldLink RX3 21 "ScannedDigits$State" "on" "[I", .fieldLink RX3 25 "ScannedDigits$State" "off" "[I", .fieldLink RX3 53 "ScannedDigits$State" "frame" "I"] ++ wsX30)
def wsX3_digitsInGroup : List Cond := .code yX3_digitsInGroup cX3_digitsInGroup 4 (some .int) :: ([.fieldLink RX3 17 "ScannedDigits$State" "digitCount" "I", .fieldLink RX3 11 "ScannedDigits$State" "digits" "[LScannedDigits$Digit;", .fieldLink RX3 95 "ScannedDigits$Digit" "group" "I"] ++ wsX30 ++ wsX00)
def wsJ6_bitCount_0f7a4 : List Cond := .code yJ6_bitCount_0f7a4 cJ6_bitCount_0f7a4 1 (some .int) :: ([.constant RJ6 265 (1431655765), .constant RJ6 266 (858993459), .constant RJ6 267 (252645135)])
def wsX3_brokenSegments : List Cond := .code yX3_brokenSegments cX3_brokenSegments 3 (some .int) :: ([.fieldLink RX3 17 "ScannedDigits$State" "digitCount" "I", .fieldLink RX3 11 "ScannedDigits$State" "digits" "[LScannedDigits$Digit;", .fieldLink RX3 98 "ScannedDigits$Digit" "broken" "I", .methodLink RX3 101 yJ6_bitCount_0f7a4, .static yJ6_bitCount_0f7a4, .initialized RJ6, .code yJ6_bitCount_0f7a4 cJ6_bitCount_0f7a4 1 (some .int), .constant RJ6 265 (1431655765), .constant RJ6 266 (858993459), .constant RJ6 267 (252645135)] ++ wsX30 ++ wsX00)
def wsX3_isDriven_r1 : List Cond := [Cond.fieldLink RX3 11 "ScannedDigits$State" "digits" "[LScannedDigits$Digit;", Cond.fieldLink RX3 59 "ScannedDigits$State" "testFrames" "I", Cond.fieldLink RX3 106 "ScannedDigits$Digit" "brightness" "I", Cond.fieldLink RX3 56 "ScannedDigits$State" "frameTicks" "I", Cond.fieldLink RX3 95 "ScannedDigits$Digit" "group" "I", Cond.methodLink RX3 109 yX0_litPartAt, Cond.instanceMethod yX0_litPartAt, Cond.selects RX0 yX0_litPartAt yX0_litPartAt, Cond.initialized RX0, Cond.code yX0_litPartAt cX0_litPartAt 2 (some .int), Cond.fieldLink RX0 21 "ScannedDigits$Digit" "width" "I", Cond.fieldLink RX0 25 "ScannedDigits$Digit" "guard" "I", Cond.methodLink RX3 91 yX3_slotStart, Cond.instanceMethod yX3_slotStart, Cond.selects RX3 yX3_slotStart yX3_slotStart, Cond.initialized RX3, Cond.code yX3_slotStart cX3_slotStart 4 (some .int), Cond.fieldLink RX3 85 "ScannedDigits$Digit" "width" "I", Cond.methodLink RX3 112 yX3_isGroupOn, Cond.instanceMethod yX3_isGroupOn, Cond.selects RX3 yX3_isGroupOn yX3_isGroupOn, Cond.code yX3_isGroupOn cX3_isGroupOn 3 (some .boolean), Cond.fieldLink RX3 21 "ScannedDigits$State" "on" "[I", Cond.fieldLink RX3 25 "ScannedDigits$State" "off" "[I"]
def wsX3_isDriven_r2 : List Cond := [Cond.fieldLink RX3 53 "ScannedDigits$State" "frame" "I"]
def wsX3_isDriven : List Cond := .code yX3_isDriven cX3_isDriven 5 (some .boolean) :: ((wsX3_isDriven_r1 ++ wsX3_isDriven_r2) ++ wsX30 ++ wsX00)
def wsX3_litNext_r1 : List Cond := [Cond.fieldLink RX3 59 "ScannedDigits$State" "testFrames" "I", Cond.fieldLink RX3 11 "ScannedDigits$State" "digits" "[LScannedDigits$Digit;", Cond.fieldLink RX3 88 "ScannedDigits$Digit" "pattern" "I", Cond.fieldLink RX3 98 "ScannedDigits$Digit" "broken" "I", Cond.methodLink RX3 116 yX3_slotNow, Cond.instanceMethod yX3_slotNow, Cond.selects RX3 yX3_slotNow yX3_slotNow, Cond.initialized RX3, Cond.code yX3_slotNow cX3_slotNow 3 (some .int), Cond.fieldLink RX3 85 "ScannedDigits$Digit" "width" "I", Cond.fieldLink RX3 17 "ScannedDigits$State" "digitCount" "I", Cond.fieldLink RX3 56 "ScannedDigits$State" "frameTicks" "I", Cond.methodLink RX3 120 yX3_isDriven, Cond.instanceMethod yX3_isDriven, Cond.selects RX3 yX3_isDriven yX3_isDriven, Cond.code yX3_isDriven cX3_isDriven 5 (some .boolean), Cond.fieldLink RX3 106 "ScannedDigits$Digit" "brightness" "I", Cond.fieldLink RX3 95 "ScannedDigits$Digit" "group" "I", Cond.methodLink RX3 109 yX0_litPartAt, Cond.instanceMethod yX0_litPartAt, Cond.selects RX0 yX0_litPartAt yX0_litPartAt, Cond.initialized RX0, Cond.code yX0_litPartAt cX0_litPartAt 2 (some .int), Cond.fieldLink RX0 21 "ScannedDigits$Digit" "width" "I"]
def wsX3_litNext_r2 : List Cond := [Cond.fieldLink RX0 25 "ScannedDigits$Digit" "guard" "I", Cond.methodLink RX3 91 yX3_slotStart, Cond.instanceMethod yX3_slotStart, Cond.selects RX3 yX3_slotStart yX3_slotStart, Cond.code yX3_slotStart cX3_slotStart 4 (some .int), Cond.methodLink RX3 112 yX3_isGroupOn, Cond.instanceMethod yX3_isGroupOn, Cond.selects RX3 yX3_isGroupOn yX3_isGroupOn, Cond.code yX3_isGroupOn cX3_isGroupOn 3 (some .boolean), Cond.fieldLink RX3 21 "ScannedDigits$State" "on" "[I", Cond.fieldLink RX3 25 "ScannedDigits$State" "off" "[I", Cond.fieldLink RX3 53 "ScannedDigits$State" "frame" "I"]
def wsX3_litNext : List Cond := .code yX3_litNext cX3_litNext 3 (some .int) :: ((wsX3_litNext_r1 ++ wsX3_litNext_r2) ++ wsX30 ++ wsX00)
def wsX3_runCurrent : List Cond := .code yX3_runCurrent cX3_runCurrent 2 none :: ([.fieldLink RX3 65 "ScannedDigits$State" "current" "F", .constantFloat RX3 140 (1075838976), .constantFloat RX3 141 (1040187392), .fieldLink RX3 69 "ScannedDigits$State" "peak" "F", .fieldLink RX3 72 "ScannedDigits$State" "charge" "F", .constantFloat RX3 142 (981668463)] ++ wsX30)
def wsX3_runTick_r1 : List Cond := [Cond.fieldLink RX3 11 "ScannedDigits$State" "digits" "[LScannedDigits$Digit;", Cond.fieldLink RX3 129 "ScannedDigits$Digit" "drivenTicks" "I", Cond.fieldLink RX3 62 "ScannedDigits$State" "drivenTicks" "I", Cond.fieldLink RX3 17 "ScannedDigits$State" "digitCount" "I", Cond.fieldLink RX3 36 "ScannedDigits$State" "settings" "[I", Cond.fieldLink RX3 50 "ScannedDigits$State" "time" "I", Cond.fieldLink RX3 56 "ScannedDigits$State" "frameTicks" "I", Cond.methodLink RX3 116 yX3_slotNow, Cond.instanceMethod yX3_slotNow, Cond.selects RX3 yX3_slotNow yX3_slotNow, Cond.initialized RX3, Cond.code yX3_slotNow cX3_slotNow 3 (some .int), Cond.fieldLink RX3 85 "ScannedDigits$Digit" "width" "I", Cond.methodLink RX3 126 yX3_litNext, Cond.instanceMethod yX3_litNext, Cond.selects RX3 yX3_litNext yX3_litNext, Cond.code yX3_litNext cX3_litNext 3 (some .int), Cond.fieldLink RX3 59 "ScannedDigits$State" "testFrames" "I", Cond.fieldLink RX3 88 "ScannedDigits$Digit" "pattern" "I", Cond.fieldLink RX3 98 "ScannedDigits$Digit" "broken" "I", Cond.methodLink RX3 120 yX3_isDriven, Cond.instanceMethod yX3_isDriven, Cond.selects RX3 yX3_isDriven yX3_isDriven, Cond.code yX3_isDriven cX3_isDriven 5 (some .boolean)]
def wsX3_runTick_r2 : List Cond := [Cond.fieldLink RX3 106 "ScannedDigits$Digit" "brightness" "I", Cond.fieldLink RX3 95 "ScannedDigits$Digit" "group" "I", Cond.methodLink RX3 109 yX0_litPartAt, Cond.instanceMethod yX0_litPartAt, Cond.selects RX0 yX0_litPartAt yX0_litPartAt, Cond.initialized RX0, Cond.code yX0_litPartAt cX0_litPartAt 2 (some .int), Cond.fieldLink RX0 21 "ScannedDigits$Digit" "width" "I", Cond.fieldLink RX0 25 "ScannedDigits$Digit" "guard" "I", Cond.methodLink RX3 91 yX3_slotStart, Cond.instanceMethod yX3_slotStart, Cond.selects RX3 yX3_slotStart yX3_slotStart, Cond.code yX3_slotStart cX3_slotStart 4 (some .int), Cond.methodLink RX3 112 yX3_isGroupOn, Cond.instanceMethod yX3_isGroupOn, Cond.selects RX3 yX3_isGroupOn yX3_isGroupOn, Cond.code yX3_isGroupOn cX3_isGroupOn 3 (some .boolean), Cond.fieldLink RX3 21 "ScannedDigits$State" "on" "[I", Cond.fieldLink RX3 25 "ScannedDigits$State" "off" "[I", Cond.fieldLink RX3 53 "ScannedDigits$State" "frame" "I", Cond.methodLink RX3 130 yX0_runTick, Cond.instanceMethod yX0_runTick, Cond.selects RX0 yX0_runTick yX0_runTick, Cond.code yX0_runTick cX0_runTick 5 none]
def wsX3_runTick_r3 : List Cond := [Cond.fieldLink RX0 9 "ScannedDigits$Digit" "glow" "[I", Cond.fieldLink RX0 15 "ScannedDigits$Digit" "use" "[I", Cond.fieldLink RX0 43 "ScannedDigits$Digit" "broken" "I", Cond.static yX5_glowUnlit, Cond.initialized RX5, Cond.code yX5_glowUnlit cX5_glowUnlit 3 (some .int), Cond.methodLink RX5 234 Lib.Math.max.name, Cond.static Lib.Math.max.name, Cond.initialized "java/lang/Math", Cond.code Lib.Math.max.name Lib.Math.max.code 2 (some .int), Cond.static yX5_glowLit, Cond.code yX5_glowLit cX5_glowLit 2 (some .int), Cond.methodLink RX5 240 Lib.Math.min.name, Cond.static Lib.Math.min.name, Cond.code Lib.Math.min.name Lib.Math.min.code 2 (some .int), Cond.methodLink RX3 101 yJ6_bitCount_0f7a4, Cond.static yJ6_bitCount_0f7a4, Cond.initialized RJ6, Cond.code yJ6_bitCount_0f7a4 cJ6_bitCount_0f7a4 1 (some .int), Cond.constant RJ6 265 (1431655765), Cond.constant RJ6 266 (858993459), Cond.constant RJ6 267 (252645135), Cond.methodLink RX3 133 yX3_runCurrent, Cond.instanceMethod yX3_runCurrent]
def wsX3_runTick_r4 : List Cond := [Cond.selects RX3 yX3_runCurrent yX3_runCurrent, Cond.code yX3_runCurrent cX3_runCurrent 2 none, Cond.fieldLink RX3 65 "ScannedDigits$State" "current" "F", Cond.constantFloat RX3 140 (1075838976), Cond.constantFloat RX3 141 (1040187392), Cond.fieldLink RX3 69 "ScannedDigits$State" "peak" "F", Cond.fieldLink RX3 72 "ScannedDigits$State" "charge" "F", Cond.constantFloat RX3 142 (981668463), Cond.methodLink RX3 137 yX3_frameLength, Cond.instanceMethod yX3_frameLength, Cond.selects RX3 yX3_frameLength yX3_frameLength, Cond.code yX3_frameLength cX3_frameLength 1 (some .int), Cond.methodLink RX3 82 yX3_beginFrame, Cond.instanceMethod yX3_beginFrame, Cond.selects RX3 yX3_beginFrame yX3_beginFrame, Cond.code yX3_beginFrame cX3_beginFrame 1 none]
def wsX3_runTick : List Cond := .code yX3_runTick cX3_runTick 4 (some .int) :: ((wsX3_runTick_r1 ++ (wsX3_runTick_r2 ++ (wsX3_runTick_r3 ++ wsX3_runTick_r4))) ++ wsX30 ++ wsX00)
def wsX3_runTicks_r1 : List Cond := [Cond.methodLink RX3 123 yX3_runTick, Cond.instanceMethod yX3_runTick, Cond.selects RX3 yX3_runTick yX3_runTick, Cond.initialized RX3, Cond.code yX3_runTick cX3_runTick 4 (some .int), Cond.fieldLink RX3 11 "ScannedDigits$State" "digits" "[LScannedDigits$Digit;", Cond.fieldLink RX3 129 "ScannedDigits$Digit" "drivenTicks" "I", Cond.fieldLink RX3 62 "ScannedDigits$State" "drivenTicks" "I", Cond.fieldLink RX3 17 "ScannedDigits$State" "digitCount" "I", Cond.fieldLink RX3 36 "ScannedDigits$State" "settings" "[I", Cond.fieldLink RX3 50 "ScannedDigits$State" "time" "I", Cond.fieldLink RX3 56 "ScannedDigits$State" "frameTicks" "I", Cond.methodLink RX3 116 yX3_slotNow, Cond.instanceMethod yX3_slotNow, Cond.selects RX3 yX3_slotNow yX3_slotNow, Cond.code yX3_slotNow cX3_slotNow 3 (some .int), Cond.fieldLink RX3 85 "ScannedDigits$Digit" "width" "I", Cond.methodLink RX3 126 yX3_litNext, Cond.instanceMethod yX3_litNext, Cond.selects RX3 yX3_litNext yX3_litNext, Cond.code yX3_litNext cX3_litNext 3 (some .int), Cond.fieldLink RX3 59 "ScannedDigits$State" "testFrames" "I", Cond.fieldLink RX3 88 "ScannedDigits$Digit" "pattern" "I", Cond.fieldLink RX3 98 "ScannedDigits$Digit" "broken" "I"]
def wsX3_runTicks_r2 : List Cond := [Cond.methodLink RX3 120 yX3_isDriven, Cond.instanceMethod yX3_isDriven, Cond.selects RX3 yX3_isDriven yX3_isDriven, Cond.code yX3_isDriven cX3_isDriven 5 (some .boolean), Cond.fieldLink RX3 106 "ScannedDigits$Digit" "brightness" "I", Cond.fieldLink RX3 95 "ScannedDigits$Digit" "group" "I", Cond.methodLink RX3 109 yX0_litPartAt, Cond.instanceMethod yX0_litPartAt, Cond.selects RX0 yX0_litPartAt yX0_litPartAt, Cond.initialized RX0, Cond.code yX0_litPartAt cX0_litPartAt 2 (some .int), Cond.fieldLink RX0 21 "ScannedDigits$Digit" "width" "I", Cond.fieldLink RX0 25 "ScannedDigits$Digit" "guard" "I", Cond.methodLink RX3 91 yX3_slotStart, Cond.instanceMethod yX3_slotStart, Cond.selects RX3 yX3_slotStart yX3_slotStart, Cond.code yX3_slotStart cX3_slotStart 4 (some .int), Cond.methodLink RX3 112 yX3_isGroupOn, Cond.instanceMethod yX3_isGroupOn, Cond.selects RX3 yX3_isGroupOn yX3_isGroupOn, Cond.code yX3_isGroupOn cX3_isGroupOn 3 (some .boolean), Cond.fieldLink RX3 21 "ScannedDigits$State" "on" "[I", Cond.fieldLink RX3 25 "ScannedDigits$State" "off" "[I", Cond.fieldLink RX3 53 "ScannedDigits$State" "frame" "I"]
def wsX3_runTicks_r3 : List Cond := [Cond.methodLink RX3 130 yX0_runTick, Cond.instanceMethod yX0_runTick, Cond.selects RX0 yX0_runTick yX0_runTick, Cond.code yX0_runTick cX0_runTick 5 none, Cond.fieldLink RX0 9 "ScannedDigits$Digit" "glow" "[I", Cond.fieldLink RX0 15 "ScannedDigits$Digit" "use" "[I", Cond.fieldLink RX0 43 "ScannedDigits$Digit" "broken" "I", Cond.static yX5_glowUnlit, Cond.initialized RX5, Cond.code yX5_glowUnlit cX5_glowUnlit 3 (some .int), Cond.methodLink RX5 234 Lib.Math.max.name, Cond.static Lib.Math.max.name, Cond.initialized "java/lang/Math", Cond.code Lib.Math.max.name Lib.Math.max.code 2 (some .int), Cond.static yX5_glowLit, Cond.code yX5_glowLit cX5_glowLit 2 (some .int), Cond.methodLink RX5 240 Lib.Math.min.name, Cond.static Lib.Math.min.name, Cond.code Lib.Math.min.name Lib.Math.min.code 2 (some .int), Cond.methodLink RX3 101 yJ6_bitCount_0f7a4, Cond.static yJ6_bitCount_0f7a4, Cond.initialized RJ6, Cond.code yJ6_bitCount_0f7a4 cJ6_bitCount_0f7a4 1 (some .int), Cond.constant RJ6 265 (1431655765)]
def wsX3_runTicks_r4 : List Cond := [Cond.constant RJ6 266 (858993459), Cond.constant RJ6 267 (252645135), Cond.methodLink RX3 133 yX3_runCurrent, Cond.instanceMethod yX3_runCurrent, Cond.selects RX3 yX3_runCurrent yX3_runCurrent, Cond.code yX3_runCurrent cX3_runCurrent 2 none, Cond.fieldLink RX3 65 "ScannedDigits$State" "current" "F", Cond.constantFloat RX3 140 (1075838976), Cond.constantFloat RX3 141 (1040187392), Cond.fieldLink RX3 69 "ScannedDigits$State" "peak" "F", Cond.fieldLink RX3 72 "ScannedDigits$State" "charge" "F", Cond.constantFloat RX3 142 (981668463), Cond.methodLink RX3 137 yX3_frameLength, Cond.instanceMethod yX3_frameLength, Cond.selects RX3 yX3_frameLength yX3_frameLength, Cond.code yX3_frameLength cX3_frameLength 1 (some .int), Cond.methodLink RX3 82 yX3_beginFrame, Cond.instanceMethod yX3_beginFrame, Cond.selects RX3 yX3_beginFrame yX3_beginFrame, Cond.code yX3_beginFrame cX3_beginFrame 1 none]
def wsX3_runTicks : List Cond := .code yX3_runTicks cX3_runTicks 4 (some .int) :: ((wsX3_runTicks_r1 ++ (wsX3_runTicks_r2 ++ (wsX3_runTicks_r3 ++ wsX3_runTicks_r4))) ++ wsX30 ++ wsX00)
def wsX4_init : List Cond := .code yX4_init cX4_init 1 none :: ([.methodLink RX4 3 objectInit, .instanceMethod objectInit, .code objectInit ⟨#[0xb1]⟩ 1 none, .arrayClass .char, .fieldLink RX4 9 "ScannedDigits$Text" "characters" "[C", .arrayClass .int, .fieldLink RX4 15 "ScannedDigits$Text" "patterns" "[I"] ++ wsX40)
def wsX4_isFull : List Cond := .code yX4_isFull cX4_isFull 1 (some .boolean) :: ([.fieldLink RX4 19 "ScannedDigits$Text" "length" "I"] ++ wsX40)
def wsX4_append : List Cond := .code yX4_append cX4_append 2 none :: ([.fieldLink RX4 9 "ScannedDigits$Text" "characters" "[C", .fieldLink RX4 19 "ScannedDigits$Text" "length" "I"] ++ wsX40)
def wsX5_patternOf : List Cond := .code yX5_patternOf cX5_patternOf 2 (some .int) :: ([.fieldLink RX5 230 "ScannedDigits" "CHARACTERS" "[C", .fieldLink RX5 227 "ScannedDigits" "PATTERNS" "[I"])
def wsX4_layOut : List Cond := .code yX4_layOut cX4_layOut 6 (some .int) :: ([.fieldLink RX4 15 "ScannedDigits$Text" "patterns" "[I", .fieldLink RX4 23 "ScannedDigits$Text" "needed" "I", .fieldLink RX4 19 "ScannedDigits$Text" "length" "I", .fieldLink RX4 9 "ScannedDigits$Text" "characters" "[C", .static yX5_patternOf, .initialized RX5, .code yX5_patternOf cX5_patternOf 2 (some .int), .fieldLink RX5 230 "ScannedDigits" "CHARACTERS" "[C", .fieldLink RX5 227 "ScannedDigits" "PATTERNS" "[I"] ++ wsX40)
def wsX5_init_r1 : List Cond := [Cond.methodLink RX5 1 objectInit, Cond.instanceMethod objectInit, Cond.code objectInit ⟨#[0xb1]⟩ 1 none, Cond.classLink RX5 7 RX3, Cond.instantiable RX3 13, Cond.initialized RX3, Cond.fieldLink RX5 10 "ScannedDigits" "now" "LScannedDigits$State;", Cond.fieldLink RX5 16 "ScannedDigits" "future" "LScannedDigits$State;", Cond.classLink RX5 19 RX1, Cond.instantiable RX1 3, Cond.initialized RX1, Cond.fieldLink RX5 22 "ScannedDigits" "history" "LScannedDigits$History;", Cond.classLink RX5 26 RX2, Cond.fieldLink RX5 28 "ScannedDigits" "snapshots" "[LScannedDigits$Snapshot;", Cond.classLink RX5 32 RX4, Cond.instantiable RX4 4, Cond.initialized RX4, Cond.fieldLink RX5 35 "ScannedDigits" "text" "LScannedDigits$Text;", Cond.instantiable RX2 2, Cond.initialized RX2, Cond.methodLink RX5 9 yX3_init, Cond.instanceMethod yX3_init, Cond.code yX3_init cX3_init 2 none, Cond.methodLink RX3 3 objectInit]
def wsX5_init_r2 : List Cond := [Cond.classLink RX3 9 RX0, Cond.fieldLink RX3 11 "ScannedDigits$State" "digits" "[LScannedDigits$Digit;", Cond.fieldLink RX3 17 "ScannedDigits$State" "digitCount" "I", Cond.arrayClass .int, Cond.fieldLink RX3 21 "ScannedDigits$State" "on" "[I", Cond.fieldLink RX3 25 "ScannedDigits$State" "off" "[I", Cond.methodLink RX3 31 ⟨"[I", "clone", "()Ljava/lang/Object;"⟩, Cond.sameMethod "[I" "java/lang/Object" "clone" "()Ljava/lang/Object;", Cond.native ⟨"java/lang/Object", "clone", "()Ljava/lang/Object;"⟩, Cond.instanceMethod ⟨"java/lang/Object", "clone", "()Ljava/lang/Object;"⟩, Cond.selects "[I" ⟨"[I", "clone", "()Ljava/lang/Object;"⟩ ⟨"java/lang/Object", "clone", "()Ljava/lang/Object;"⟩, Cond.classLink RX3 32 "[I", Cond.fieldLink RX3 36 "ScannedDigits$State" "settings" "[I", Cond.instantiable RX0 9, Cond.initialized RX0, Cond.methodLink RX3 39 yX0_init, Cond.instanceMethod yX0_init, Cond.code yX0_init cX0_init 1 none, Cond.methodLink RX0 3 objectInit, Cond.fieldLink RX0 9 "ScannedDigits$Digit" "glow" "[I", Cond.fieldLink RX0 15 "ScannedDigits$Digit" "use" "[I", Cond.methodLink RX0 18 yX0_makeNew, Cond.instanceMethod yX0_makeNew, Cond.selects RX0 yX0_makeNew yX0_makeNew]
def wsX5_init_r3 : List Cond := [Cond.code yX0_makeNew cX0_makeNew 1 none, Cond.fieldLink RX0 21 "ScannedDigits$Digit" "width" "I", Cond.fieldLink RX0 25 "ScannedDigits$Digit" "guard" "I", Cond.fieldLink RX0 28 "ScannedDigits$Digit" "brightness" "I", Cond.fieldLink RX0 31 "ScannedDigits$Digit" "pattern" "I", Cond.fieldLink RX0 34 "ScannedDigits$Digit" "group" "I", Cond.fieldLink RX0 37 "ScannedDigits$Digit" "drivenTicks" "I", Cond.methodLink RX0 40 yX0_renewSegments, Cond.instanceMethod yX0_renewSegments, Cond.selects RX0 yX0_renewSegments yX0_renewSegments, Cond.code yX0_renewSegments cX0_renewSegments 2 none, Cond.fieldLink RX0 43 "ScannedDigits$Digit" "broken" "I", Cond.methodLink RX5 21 yX1_init, Cond.instanceMethod yX1_init, Cond.code yX1_init cX1_init 2 none, Cond.methodLink RX1 3 objectInit, Cond.classLink RX1 9 RX3, Cond.fieldLink RX1 11 "ScannedDigits$History" "rows" "[LScannedDigits$State;", Cond.methodLink RX1 17 yX3_init, Cond.instanceMethod yX4_init, Cond.code yX4_init cX4_init 1 none, Cond.methodLink RX4 3 objectInit, Cond.arrayClass .char, Cond.fieldLink RX4 9 "ScannedDigits$Text" "characters" "[C"]
def wsX5_init_r4 : List Cond := [Cond.fieldLink RX4 15 "ScannedDigits$Text" "patterns" "[I", Cond.instanceMethod yX2_init, Cond.code yX2_init cX2_init 1 none, Cond.methodLink RX2 1 objectInit, Cond.classLink RX2 7 RX3, Cond.fieldLink RX2 10 "ScannedDigits$Snapshot" "state" "LScannedDigits$State;", Cond.methodLink RX2 9 yX3_init]
def wsX5_init : List Cond := .code yX5_init cX5_init 2 none :: ((wsX5_init_r1 ++ (wsX5_init_r2 ++ (wsX5_init_r3 ++ wsX5_init_r4))) ++ wsX30 ++ wsX50 ++ wsX10 ++ wsX40 ++ wsX20 ++ wsX00)
def wsX5_setDigits_r1 : List Cond := [Cond.fieldLink RX5 22 "ScannedDigits" "history" "LScannedDigits$History;", Cond.fieldLink RX5 10 "ScannedDigits" "now" "LScannedDigits$State;", Cond.fieldLink RX5 48 "ScannedDigits$State" "digitCount" "I", Cond.methodLink RX5 40 yX5_isWithin, Cond.static yX5_isWithin, Cond.initialized RX5, Cond.code yX5_isWithin cX5_isWithin 3 (some .boolean), Cond.methodLink RX5 44 yX1_record, Cond.instanceMethod yX1_record, Cond.selects RX1 yX1_record yX1_record, Cond.initialized RX1, Cond.code yX1_record cX1_record 2 none, Cond.fieldLink RX1 11 "ScannedDigits$History" "rows" "[LScannedDigits$State;", Cond.fieldLink RX1 18 "ScannedDigits$History" "next" "I", Cond.fieldLink RX1 26 "ScannedDigits$History" "size" "I", Cond.methodLink RX1 29 Lib.Math.min.name, Cond.static Lib.Math.min.name, Cond.initialized "java/lang/Math", Cond.code Lib.Math.min.name Lib.Math.min.code 2 (some .int), Cond.methodLink RX1 22 yX3_copyFrom, Cond.instanceMethod yX3_copyFrom, Cond.selects RX3 yX3_copyFrom yX3_copyFrom, Cond.initialized RX3, Cond.code yX3_copyFrom cX3_copyFrom 3 none]
def wsX5_setDigits_r2 : List Cond := [Cond.fieldLink RX3 11 "ScannedDigits$State" "digits" "[LScannedDigits$Digit;", Cond.fieldLink RX3 17 "ScannedDigits$State" "digitCount" "I", Cond.fieldLink RX3 21 "ScannedDigits$State" "on" "[I", Cond.methodLink RX3 44 arraycopyName, Cond.native arraycopyName, Cond.static arraycopyName, Cond.initialized "java/lang/System", Cond.fieldLink RX3 25 "ScannedDigits$State" "off" "[I", Cond.fieldLink RX3 36 "ScannedDigits$State" "settings" "[I", Cond.fieldLink RX3 50 "ScannedDigits$State" "time" "I", Cond.fieldLink RX3 53 "ScannedDigits$State" "frame" "I", Cond.fieldLink RX3 56 "ScannedDigits$State" "frameTicks" "I", Cond.fieldLink RX3 59 "ScannedDigits$State" "testFrames" "I", Cond.fieldLink RX3 62 "ScannedDigits$State" "drivenTicks" "I", Cond.fieldLink RX3 65 "ScannedDigits$State" "current" "F", Cond.fieldLink RX3 69 "ScannedDigits$State" "peak" "F", Cond.fieldLink RX3 72 "ScannedDigits$State" "charge" "F", Cond.methodLink RX3 40 yX0_copyFrom, Cond.instanceMethod yX0_copyFrom, Cond.selects RX0 yX0_copyFrom yX0_copyFrom, Cond.initialized RX0, Cond.code yX0_copyFrom cX0_copyFrom 2 none, Cond.fieldLink RX0 21 "ScannedDigits$Digit" "width" "I", Cond.fieldLink RX0 25 "ScannedDigits$Digit" "guard" "I"]
def wsX5_setDigits_r3 : List Cond := [Cond.fieldLink RX0 28 "ScannedDigits$Digit" "brightness" "I", Cond.fieldLink RX0 31 "ScannedDigits$Digit" "pattern" "I", Cond.fieldLink RX0 34 "ScannedDigits$Digit" "group" "I", Cond.fieldLink RX0 37 "ScannedDigits$Digit" "drivenTicks" "I", Cond.fieldLink RX0 43 "ScannedDigits$Digit" "broken" "I", Cond.fieldLink RX0 9 "ScannedDigits$Digit" "glow" "[I", Cond.methodLink RX0 46 arraycopyName, Cond.fieldLink RX0 15 "ScannedDigits$Digit" "use" "[I", Cond.methodLink RX5 52 yX3_changeDigitCount, Cond.instanceMethod yX3_changeDigitCount, Cond.selects RX3 yX3_changeDigitCount yX3_changeDigitCount, Cond.code yX3_changeDigitCount cX3_changeDigitCount 3 none, Cond.methodLink RX3 79 yX0_makeNew, Cond.instanceMethod yX0_makeNew, Cond.selects RX0 yX0_makeNew yX0_makeNew, Cond.code yX0_makeNew cX0_makeNew 1 none, Cond.methodLink RX0 40 yX0_renewSegments, Cond.instanceMethod yX0_renewSegments, Cond.selects RX0 yX0_renewSegments yX0_renewSegments, Cond.code yX0_renewSegments cX0_renewSegments 2 none, Cond.methodLink RX3 82 yX3_beginFrame, Cond.instanceMethod yX3_beginFrame, Cond.selects RX3 yX3_beginFrame yX3_beginFrame, Cond.code yX3_beginFrame cX3_beginFrame 1 none]
def wsX5_setDigits : List Cond := .code yX5_setDigits cX5_setDigits 3 (some .int) :: ((wsX5_setDigits_r1 ++ (wsX5_setDigits_r2 ++ wsX5_setDigits_r3)) ++ wsX50 ++ wsX30 ++ wsX10 ++ wsX00)
def wsX5_setWidth_r1 : List Cond := [Cond.fieldLink RX5 10 "ScannedDigits" "now" "LScannedDigits$State;", Cond.fieldLink RX5 22 "ScannedDigits" "history" "LScannedDigits$History;", Cond.methodLink RX5 56 yX3_find, Cond.instanceMethod yX3_find, Cond.selects RX3 yX3_find yX3_find, Cond.initialized RX3, Cond.code yX3_find cX3_find 2 (some (.object "ScannedDigits$Digit")), Cond.fieldLink RX3 17 "ScannedDigits$State" "digitCount" "I", Cond.fieldLink RX3 11 "ScannedDigits$State" "digits" "[LScannedDigits$Digit;", Cond.static yX5_isWithin, Cond.initialized RX5, Cond.code yX5_isWithin cX5_isWithin 3 (some .boolean), Cond.methodLink RX5 40 yX5_isWithin, Cond.methodLink RX5 44 yX1_record, Cond.instanceMethod yX1_record, Cond.selects RX1 yX1_record yX1_record, Cond.initialized RX1, Cond.code yX1_record cX1_record 2 none, Cond.fieldLink RX1 11 "ScannedDigits$History" "rows" "[LScannedDigits$State;", Cond.fieldLink RX1 18 "ScannedDigits$History" "next" "I", Cond.fieldLink RX1 26 "ScannedDigits$History" "size" "I", Cond.methodLink RX1 29 Lib.Math.min.name, Cond.static Lib.Math.min.name, Cond.initialized "java/lang/Math"]
def wsX5_setWidth_r2 : List Cond := [Cond.code Lib.Math.min.name Lib.Math.min.code 2 (some .int), Cond.methodLink RX1 22 yX3_copyFrom, Cond.instanceMethod yX3_copyFrom, Cond.selects RX3 yX3_copyFrom yX3_copyFrom, Cond.code yX3_copyFrom cX3_copyFrom 3 none, Cond.fieldLink RX3 21 "ScannedDigits$State" "on" "[I", Cond.methodLink RX3 44 arraycopyName, Cond.native arraycopyName, Cond.static arraycopyName, Cond.initialized "java/lang/System", Cond.fieldLink RX3 25 "ScannedDigits$State" "off" "[I", Cond.fieldLink RX3 36 "ScannedDigits$State" "settings" "[I", Cond.fieldLink RX3 50 "ScannedDigits$State" "time" "I", Cond.fieldLink RX3 53 "ScannedDigits$State" "frame" "I", Cond.fieldLink RX3 56 "ScannedDigits$State" "frameTicks" "I", Cond.fieldLink RX3 59 "ScannedDigits$State" "testFrames" "I", Cond.fieldLink RX3 62 "ScannedDigits$State" "drivenTicks" "I", Cond.fieldLink RX3 65 "ScannedDigits$State" "current" "F", Cond.fieldLink RX3 69 "ScannedDigits$State" "peak" "F", Cond.fieldLink RX3 72 "ScannedDigits$State" "charge" "F", Cond.methodLink RX3 40 yX0_copyFrom, Cond.instanceMethod yX0_copyFrom, Cond.selects RX0 yX0_copyFrom yX0_copyFrom, Cond.initialized RX0]
def wsX5_setWidth_r3 : List Cond := [Cond.code yX0_copyFrom cX0_copyFrom 2 none, Cond.fieldLink RX0 21 "ScannedDigits$Digit" "width" "I", Cond.fieldLink RX0 25 "ScannedDigits$Digit" "guard" "I", Cond.fieldLink RX0 28 "ScannedDigits$Digit" "brightness" "I", Cond.fieldLink RX0 31 "ScannedDigits$Digit" "pattern" "I", Cond.fieldLink RX0 34 "ScannedDigits$Digit" "group" "I", Cond.fieldLink RX0 37 "ScannedDigits$Digit" "drivenTicks" "I", Cond.fieldLink RX0 43 "ScannedDigits$Digit" "broken" "I", Cond.fieldLink RX0 9 "ScannedDigits$Digit" "glow" "[I", Cond.methodLink RX0 46 arraycopyName, Cond.fieldLink RX0 15 "ScannedDigits$Digit" "use" "[I", Cond.methodLink RX5 60 yX3_changeWidth, Cond.instanceMethod yX3_changeWidth, Cond.selects RX3 yX3_changeWidth yX3_changeWidth, Cond.code yX3_changeWidth cX3_changeWidth 3 none, Cond.fieldLink RX3 85 "ScannedDigits$Digit" "width" "I", Cond.methodLink RX3 82 yX3_beginFrame, Cond.instanceMethod yX3_beginFrame, Cond.selects RX3 yX3_beginFrame yX3_beginFrame, Cond.code yX3_beginFrame cX3_beginFrame 1 none, Cond.methodLink RX5 64 yX3_frameLength, Cond.instanceMethod yX3_frameLength, Cond.selects RX3 yX3_frameLength yX3_frameLength, Cond.code yX3_frameLength cX3_frameLength 1 (some .int)]
def wsX5_setWidth_r4 : List Cond := [Cond.methodLink RX3 91 yX3_slotStart, Cond.instanceMethod yX3_slotStart, Cond.selects RX3 yX3_slotStart yX3_slotStart, Cond.code yX3_slotStart cX3_slotStart 4 (some .int)]
def wsX5_setWidth : List Cond := .code yX5_setWidth cX5_setWidth 4 (some .int) :: ((wsX5_setWidth_r1 ++ (wsX5_setWidth_r2 ++ (wsX5_setWidth_r3 ++ wsX5_setWidth_r4))) ++ wsX50 ++ wsX30 ++ wsX10 ++ wsX00)
def wsX5_setGuard_r1 : List Cond := [Cond.fieldLink RX5 10 "ScannedDigits" "now" "LScannedDigits$State;", Cond.fieldLink RX5 22 "ScannedDigits" "history" "LScannedDigits$History;", Cond.fieldLink RX5 68 "ScannedDigits$Digit" "guard" "I", Cond.methodLink RX5 56 yX3_find, Cond.instanceMethod yX3_find, Cond.selects RX3 yX3_find yX3_find, Cond.initialized RX3, Cond.code yX3_find cX3_find 2 (some (.object "ScannedDigits$Digit")), Cond.fieldLink RX3 17 "ScannedDigits$State" "digitCount" "I", Cond.fieldLink RX3 11 "ScannedDigits$State" "digits" "[LScannedDigits$Digit;", Cond.static yX5_isWithin, Cond.initialized RX5, Cond.code yX5_isWithin cX5_isWithin 3 (some .boolean), Cond.methodLink RX5 40 yX5_isWithin, Cond.methodLink RX5 44 yX1_record, Cond.instanceMethod yX1_record, Cond.selects RX1 yX1_record yX1_record, Cond.initialized RX1, Cond.code yX1_record cX1_record 2 none, Cond.fieldLink RX1 11 "ScannedDigits$History" "rows" "[LScannedDigits$State;", Cond.fieldLink RX1 18 "ScannedDigits$History" "next" "I", Cond.fieldLink RX1 26 "ScannedDigits$History" "size" "I", Cond.methodLink RX1 29 Lib.Math.min.name, Cond.static Lib.Math.min.name]
def wsX5_setGuard_r2 : List Cond := [Cond.initialized "java/lang/Math", Cond.code Lib.Math.min.name Lib.Math.min.code 2 (some .int), Cond.methodLink RX1 22 yX3_copyFrom, Cond.instanceMethod yX3_copyFrom, Cond.selects RX3 yX3_copyFrom yX3_copyFrom, Cond.code yX3_copyFrom cX3_copyFrom 3 none, Cond.fieldLink RX3 21 "ScannedDigits$State" "on" "[I", Cond.methodLink RX3 44 arraycopyName, Cond.native arraycopyName, Cond.static arraycopyName, Cond.initialized "java/lang/System", Cond.fieldLink RX3 25 "ScannedDigits$State" "off" "[I", Cond.fieldLink RX3 36 "ScannedDigits$State" "settings" "[I", Cond.fieldLink RX3 50 "ScannedDigits$State" "time" "I", Cond.fieldLink RX3 53 "ScannedDigits$State" "frame" "I", Cond.fieldLink RX3 56 "ScannedDigits$State" "frameTicks" "I", Cond.fieldLink RX3 59 "ScannedDigits$State" "testFrames" "I", Cond.fieldLink RX3 62 "ScannedDigits$State" "drivenTicks" "I", Cond.fieldLink RX3 65 "ScannedDigits$State" "current" "F", Cond.fieldLink RX3 69 "ScannedDigits$State" "peak" "F", Cond.fieldLink RX3 72 "ScannedDigits$State" "charge" "F", Cond.methodLink RX3 40 yX0_copyFrom, Cond.instanceMethod yX0_copyFrom, Cond.selects RX0 yX0_copyFrom yX0_copyFrom]
def wsX5_setGuard_r3 : List Cond := [Cond.initialized RX0, Cond.code yX0_copyFrom cX0_copyFrom 2 none, Cond.fieldLink RX0 21 "ScannedDigits$Digit" "width" "I", Cond.fieldLink RX0 25 "ScannedDigits$Digit" "guard" "I", Cond.fieldLink RX0 28 "ScannedDigits$Digit" "brightness" "I", Cond.fieldLink RX0 31 "ScannedDigits$Digit" "pattern" "I", Cond.fieldLink RX0 34 "ScannedDigits$Digit" "group" "I", Cond.fieldLink RX0 37 "ScannedDigits$Digit" "drivenTicks" "I", Cond.fieldLink RX0 43 "ScannedDigits$Digit" "broken" "I", Cond.fieldLink RX0 9 "ScannedDigits$Digit" "glow" "[I", Cond.methodLink RX0 46 arraycopyName, Cond.fieldLink RX0 15 "ScannedDigits$Digit" "use" "[I", Cond.methodLink RX5 73 yX0_litPart, Cond.instanceMethod yX0_litPart, Cond.selects RX0 yX0_litPart yX0_litPart, Cond.code yX0_litPart cX0_litPart 1 (some .int), Cond.methodLink RX0 52 yX0_litPartAt, Cond.instanceMethod yX0_litPartAt, Cond.selects RX0 yX0_litPartAt yX0_litPartAt, Cond.code yX0_litPartAt cX0_litPartAt 2 (some .int)]
def wsX5_setGuard : List Cond := .code yX5_setGuard cX5_setGuard 4 (some .int) :: ((wsX5_setGuard_r1 ++ (wsX5_setGuard_r2 ++ wsX5_setGuard_r3)) ++ wsX50 ++ wsX00 ++ wsX30 ++ wsX10)
def wsX5_setBrightness_r1 : List Cond := [Cond.fieldLink RX5 10 "ScannedDigits" "now" "LScannedDigits$State;", Cond.fieldLink RX5 22 "ScannedDigits" "history" "LScannedDigits$History;", Cond.fieldLink RX5 76 "ScannedDigits$Digit" "brightness" "I", Cond.methodLink RX5 56 yX3_find, Cond.instanceMethod yX3_find, Cond.selects RX3 yX3_find yX3_find, Cond.initialized RX3, Cond.code yX3_find cX3_find 2 (some (.object "ScannedDigits$Digit")), Cond.fieldLink RX3 17 "ScannedDigits$State" "digitCount" "I", Cond.fieldLink RX3 11 "ScannedDigits$State" "digits" "[LScannedDigits$Digit;", Cond.static yX5_isWithin, Cond.initialized RX5, Cond.code yX5_isWithin cX5_isWithin 3 (some .boolean), Cond.methodLink RX5 40 yX5_isWithin, Cond.methodLink RX5 44 yX1_record, Cond.instanceMethod yX1_record, Cond.selects RX1 yX1_record yX1_record, Cond.initialized RX1, Cond.code yX1_record cX1_record 2 none, Cond.fieldLink RX1 11 "ScannedDigits$History" "rows" "[LScannedDigits$State;", Cond.fieldLink RX1 18 "ScannedDigits$History" "next" "I", Cond.fieldLink RX1 26 "ScannedDigits$History" "size" "I", Cond.methodLink RX1 29 Lib.Math.min.name, Cond.static Lib.Math.min.name]
def wsX5_setBrightness_r2 : List Cond := [Cond.initialized "java/lang/Math", Cond.code Lib.Math.min.name Lib.Math.min.code 2 (some .int), Cond.methodLink RX1 22 yX3_copyFrom, Cond.instanceMethod yX3_copyFrom, Cond.selects RX3 yX3_copyFrom yX3_copyFrom, Cond.code yX3_copyFrom cX3_copyFrom 3 none, Cond.fieldLink RX3 21 "ScannedDigits$State" "on" "[I", Cond.methodLink RX3 44 arraycopyName, Cond.native arraycopyName, Cond.static arraycopyName, Cond.initialized "java/lang/System", Cond.fieldLink RX3 25 "ScannedDigits$State" "off" "[I", Cond.fieldLink RX3 36 "ScannedDigits$State" "settings" "[I", Cond.fieldLink RX3 50 "ScannedDigits$State" "time" "I", Cond.fieldLink RX3 53 "ScannedDigits$State" "frame" "I", Cond.fieldLink RX3 56 "ScannedDigits$State" "frameTicks" "I", Cond.fieldLink RX3 59 "ScannedDigits$State" "testFrames" "I", Cond.fieldLink RX3 62 "ScannedDigits$State" "drivenTicks" "I", Cond.fieldLink RX3 65 "ScannedDigits$State" "current" "F", Cond.fieldLink RX3 69 "ScannedDigits$State" "peak" "F", Cond.fieldLink RX3 72 "ScannedDigits$State" "charge" "F", Cond.methodLink RX3 40 yX0_copyFrom, Cond.instanceMethod yX0_copyFrom, Cond.selects RX0 yX0_copyFrom yX0_copyFrom]
def wsX5_setBrightness_r3 : List Cond := [Cond.initialized RX0, Cond.code yX0_copyFrom cX0_copyFrom 2 none, Cond.fieldLink RX0 21 "ScannedDigits$Digit" "width" "I", Cond.fieldLink RX0 25 "ScannedDigits$Digit" "guard" "I", Cond.fieldLink RX0 28 "ScannedDigits$Digit" "brightness" "I", Cond.fieldLink RX0 31 "ScannedDigits$Digit" "pattern" "I", Cond.fieldLink RX0 34 "ScannedDigits$Digit" "group" "I", Cond.fieldLink RX0 37 "ScannedDigits$Digit" "drivenTicks" "I", Cond.fieldLink RX0 43 "ScannedDigits$Digit" "broken" "I", Cond.fieldLink RX0 9 "ScannedDigits$Digit" "glow" "[I", Cond.methodLink RX0 46 arraycopyName, Cond.fieldLink RX0 15 "ScannedDigits$Digit" "use" "[I", Cond.methodLink RX5 73 yX0_litPart, Cond.instanceMethod yX0_litPart, Cond.selects RX0 yX0_litPart yX0_litPart, Cond.code yX0_litPart cX0_litPart 1 (some .int), Cond.methodLink RX0 52 yX0_litPartAt, Cond.instanceMethod yX0_litPartAt, Cond.selects RX0 yX0_litPartAt yX0_litPartAt, Cond.code yX0_litPartAt cX0_litPartAt 2 (some .int)]
def wsX5_setBrightness : List Cond := .code yX5_setBrightness cX5_setBrightness 4 (some .int) :: ((wsX5_setBrightness_r1 ++ (wsX5_setBrightness_r2 ++ wsX5_setBrightness_r3)) ++ wsX50 ++ wsX00 ++ wsX30 ++ wsX10)
def wsX5_setPattern_r1 : List Cond := [Cond.fieldLink RX5 10 "ScannedDigits" "now" "LScannedDigits$State;", Cond.fieldLink RX5 22 "ScannedDigits" "history" "LScannedDigits$History;", Cond.fieldLink RX5 79 "ScannedDigits$Digit" "pattern" "I", Cond.methodLink RX5 56 yX3_find, Cond.instanceMethod yX3_find, Cond.selects RX3 yX3_find yX3_find, Cond.initialized RX3, Cond.code yX3_find cX3_find 2 (some (.object "ScannedDigits$Digit")), Cond.fieldLink RX3 17 "ScannedDigits$State" "digitCount" "I", Cond.fieldLink RX3 11 "ScannedDigits$State" "digits" "[LScannedDigits$Digit;", Cond.static yX5_isWithin, Cond.initialized RX5, Cond.code yX5_isWithin cX5_isWithin 3 (some .boolean), Cond.methodLink RX5 40 yX5_isWithin, Cond.methodLink RX5 44 yX1_record, Cond.instanceMethod yX1_record, Cond.selects RX1 yX1_record yX1_record, Cond.initialized RX1, Cond.code yX1_record cX1_record 2 none, Cond.fieldLink RX1 11 "ScannedDigits$History" "rows" "[LScannedDigits$State;", Cond.fieldLink RX1 18 "ScannedDigits$History" "next" "I", Cond.fieldLink RX1 26 "ScannedDigits$History" "size" "I", Cond.methodLink RX1 29 Lib.Math.min.name, Cond.static Lib.Math.min.name]
def wsX5_setPattern_r2 : List Cond := [Cond.initialized "java/lang/Math", Cond.code Lib.Math.min.name Lib.Math.min.code 2 (some .int), Cond.methodLink RX1 22 yX3_copyFrom, Cond.instanceMethod yX3_copyFrom, Cond.selects RX3 yX3_copyFrom yX3_copyFrom, Cond.code yX3_copyFrom cX3_copyFrom 3 none, Cond.fieldLink RX3 21 "ScannedDigits$State" "on" "[I", Cond.methodLink RX3 44 arraycopyName, Cond.native arraycopyName, Cond.static arraycopyName, Cond.initialized "java/lang/System", Cond.fieldLink RX3 25 "ScannedDigits$State" "off" "[I", Cond.fieldLink RX3 36 "ScannedDigits$State" "settings" "[I", Cond.fieldLink RX3 50 "ScannedDigits$State" "time" "I", Cond.fieldLink RX3 53 "ScannedDigits$State" "frame" "I", Cond.fieldLink RX3 56 "ScannedDigits$State" "frameTicks" "I", Cond.fieldLink RX3 59 "ScannedDigits$State" "testFrames" "I", Cond.fieldLink RX3 62 "ScannedDigits$State" "drivenTicks" "I", Cond.fieldLink RX3 65 "ScannedDigits$State" "current" "F", Cond.fieldLink RX3 69 "ScannedDigits$State" "peak" "F", Cond.fieldLink RX3 72 "ScannedDigits$State" "charge" "F", Cond.methodLink RX3 40 yX0_copyFrom, Cond.instanceMethod yX0_copyFrom, Cond.selects RX0 yX0_copyFrom yX0_copyFrom]
def wsX5_setPattern_r3 : List Cond := [Cond.initialized RX0, Cond.code yX0_copyFrom cX0_copyFrom 2 none, Cond.fieldLink RX0 21 "ScannedDigits$Digit" "width" "I", Cond.fieldLink RX0 25 "ScannedDigits$Digit" "guard" "I", Cond.fieldLink RX0 28 "ScannedDigits$Digit" "brightness" "I", Cond.fieldLink RX0 31 "ScannedDigits$Digit" "pattern" "I", Cond.fieldLink RX0 34 "ScannedDigits$Digit" "group" "I", Cond.fieldLink RX0 37 "ScannedDigits$Digit" "drivenTicks" "I", Cond.fieldLink RX0 43 "ScannedDigits$Digit" "broken" "I", Cond.fieldLink RX0 9 "ScannedDigits$Digit" "glow" "[I", Cond.methodLink RX0 46 arraycopyName, Cond.fieldLink RX0 15 "ScannedDigits$Digit" "use" "[I"]
def wsX5_setPattern : List Cond := .code yX5_setPattern cX5_setPattern 5 (some .int) :: ((wsX5_setPattern_r1 ++ (wsX5_setPattern_r2 ++ wsX5_setPattern_r3)) ++ wsX50 ++ wsX00 ++ wsX30 ++ wsX10)
def wsX5_setGroup_r1 : List Cond := [Cond.fieldLink RX5 10 "ScannedDigits" "now" "LScannedDigits$State;", Cond.fieldLink RX5 22 "ScannedDigits" "history" "LScannedDigits$History;", Cond.fieldLink RX5 82 "ScannedDigits$Digit" "group" "I", Cond.methodLink RX5 56 yX3_find, Cond.instanceMethod yX3_find, Cond.selects RX3 yX3_find yX3_find, Cond.initialized RX3, Cond.code yX3_find cX3_find 2 (some (.object "ScannedDigits$Digit")), Cond.fieldLink RX3 17 "ScannedDigits$State" "digitCount" "I", Cond.fieldLink RX3 11 "ScannedDigits$State" "digits" "[LScannedDigits$Digit;", Cond.static yX5_isWithin, Cond.initialized RX5, Cond.code yX5_isWithin cX5_isWithin 3 (some .boolean), Cond.methodLink RX5 40 yX5_isWithin, Cond.methodLink RX5 44 yX1_record, Cond.instanceMethod yX1_record, Cond.selects RX1 yX1_record yX1_record, Cond.initialized RX1, Cond.code yX1_record cX1_record 2 none, Cond.fieldLink RX1 11 "ScannedDigits$History" "rows" "[LScannedDigits$State;", Cond.fieldLink RX1 18 "ScannedDigits$History" "next" "I", Cond.fieldLink RX1 26 "ScannedDigits$History" "size" "I", Cond.methodLink RX1 29 Lib.Math.min.name, Cond.static Lib.Math.min.name]
def wsX5_setGroup_r2 : List Cond := [Cond.initialized "java/lang/Math", Cond.code Lib.Math.min.name Lib.Math.min.code 2 (some .int), Cond.methodLink RX1 22 yX3_copyFrom, Cond.instanceMethod yX3_copyFrom, Cond.selects RX3 yX3_copyFrom yX3_copyFrom, Cond.code yX3_copyFrom cX3_copyFrom 3 none, Cond.fieldLink RX3 21 "ScannedDigits$State" "on" "[I", Cond.methodLink RX3 44 arraycopyName, Cond.native arraycopyName, Cond.static arraycopyName, Cond.initialized "java/lang/System", Cond.fieldLink RX3 25 "ScannedDigits$State" "off" "[I", Cond.fieldLink RX3 36 "ScannedDigits$State" "settings" "[I", Cond.fieldLink RX3 50 "ScannedDigits$State" "time" "I", Cond.fieldLink RX3 53 "ScannedDigits$State" "frame" "I", Cond.fieldLink RX3 56 "ScannedDigits$State" "frameTicks" "I", Cond.fieldLink RX3 59 "ScannedDigits$State" "testFrames" "I", Cond.fieldLink RX3 62 "ScannedDigits$State" "drivenTicks" "I", Cond.fieldLink RX3 65 "ScannedDigits$State" "current" "F", Cond.fieldLink RX3 69 "ScannedDigits$State" "peak" "F", Cond.fieldLink RX3 72 "ScannedDigits$State" "charge" "F", Cond.methodLink RX3 40 yX0_copyFrom, Cond.instanceMethod yX0_copyFrom, Cond.selects RX0 yX0_copyFrom yX0_copyFrom]
def wsX5_setGroup_r3 : List Cond := [Cond.initialized RX0, Cond.code yX0_copyFrom cX0_copyFrom 2 none, Cond.fieldLink RX0 21 "ScannedDigits$Digit" "width" "I", Cond.fieldLink RX0 25 "ScannedDigits$Digit" "guard" "I", Cond.fieldLink RX0 28 "ScannedDigits$Digit" "brightness" "I", Cond.fieldLink RX0 31 "ScannedDigits$Digit" "pattern" "I", Cond.fieldLink RX0 34 "ScannedDigits$Digit" "group" "I", Cond.fieldLink RX0 37 "ScannedDigits$Digit" "drivenTicks" "I", Cond.fieldLink RX0 43 "ScannedDigits$Digit" "broken" "I", Cond.fieldLink RX0 9 "ScannedDigits$Digit" "glow" "[I", Cond.methodLink RX0 46 arraycopyName, Cond.fieldLink RX0 15 "ScannedDigits$Digit" "use" "[I"]
def wsX5_setGroup : List Cond := .code yX5_setGroup cX5_setGroup 5 (some .int) :: ((wsX5_setGroup_r1 ++ (wsX5_setGroup_r2 ++ wsX5_setGroup_r3)) ++ wsX50 ++ wsX00 ++ wsX30 ++ wsX10)
def wsX5_setBlink_r1 : List Cond := [Cond.fieldLink RX5 22 "ScannedDigits" "history" "LScannedDigits$History;", Cond.fieldLink RX5 10 "ScannedDigits" "now" "LScannedDigits$State;", Cond.fieldLink RX5 85 "ScannedDigits$State" "on" "[I", Cond.fieldLink RX5 89 "ScannedDigits$State" "off" "[I", Cond.methodLink RX5 40 yX5_isWithin, Cond.static yX5_isWithin, Cond.initialized RX5, Cond.code yX5_isWithin cX5_isWithin 3 (some .boolean), Cond.methodLink RX5 44 yX1_record, Cond.instanceMethod yX1_record, Cond.selects RX1 yX1_record yX1_record, Cond.initialized RX1, Cond.code yX1_record cX1_record 2 none, Cond.fieldLink RX1 11 "ScannedDigits$History" "rows" "[LScannedDigits$State;", Cond.fieldLink RX1 18 "ScannedDigits$History" "next" "I", Cond.fieldLink RX1 26 "ScannedDigits$History" "size" "I", Cond.methodLink RX1 29 Lib.Math.min.name, Cond.static Lib.Math.min.name, Cond.initialized "java/lang/Math", Cond.code Lib.Math.min.name Lib.Math.min.code 2 (some .int), Cond.methodLink RX1 22 yX3_copyFrom, Cond.instanceMethod yX3_copyFrom, Cond.selects RX3 yX3_copyFrom yX3_copyFrom, Cond.initialized RX3]
def wsX5_setBlink_r2 : List Cond := [Cond.code yX3_copyFrom cX3_copyFrom 3 none, Cond.fieldLink RX3 11 "ScannedDigits$State" "digits" "[LScannedDigits$Digit;", Cond.fieldLink RX3 17 "ScannedDigits$State" "digitCount" "I", Cond.fieldLink RX3 21 "ScannedDigits$State" "on" "[I", Cond.methodLink RX3 44 arraycopyName, Cond.native arraycopyName, Cond.static arraycopyName, Cond.initialized "java/lang/System", Cond.fieldLink RX3 25 "ScannedDigits$State" "off" "[I", Cond.fieldLink RX3 36 "ScannedDigits$State" "settings" "[I", Cond.fieldLink RX3 50 "ScannedDigits$State" "time" "I", Cond.fieldLink RX3 53 "ScannedDigits$State" "frame" "I", Cond.fieldLink RX3 56 "ScannedDigits$State" "frameTicks" "I", Cond.fieldLink RX3 59 "ScannedDigits$State" "testFrames" "I", Cond.fieldLink RX3 62 "ScannedDigits$State" "drivenTicks" "I", Cond.fieldLink RX3 65 "ScannedDigits$State" "current" "F", Cond.fieldLink RX3 69 "ScannedDigits$State" "peak" "F", Cond.fieldLink RX3 72 "ScannedDigits$State" "charge" "F", Cond.methodLink RX3 40 yX0_copyFrom, Cond.instanceMethod yX0_copyFrom, Cond.selects RX0 yX0_copyFrom yX0_copyFrom, Cond.initialized RX0, Cond.code yX0_copyFrom cX0_copyFrom 2 none, Cond.fieldLink RX0 21 "ScannedDigits$Digit" "width" "I"]
def wsX5_setBlink_r3 : List Cond := [Cond.fieldLink RX0 25 "ScannedDigits$Digit" "guard" "I", Cond.fieldLink RX0 28 "ScannedDigits$Digit" "brightness" "I", Cond.fieldLink RX0 31 "ScannedDigits$Digit" "pattern" "I", Cond.fieldLink RX0 34 "ScannedDigits$Digit" "group" "I", Cond.fieldLink RX0 37 "ScannedDigits$Digit" "drivenTicks" "I", Cond.fieldLink RX0 43 "ScannedDigits$Digit" "broken" "I", Cond.fieldLink RX0 9 "ScannedDigits$Digit" "glow" "[I", Cond.methodLink RX0 46 arraycopyName, Cond.fieldLink RX0 15 "ScannedDigits$Digit" "use" "[I", Cond.methodLink RX5 92 yX3_digitsInGroup, Cond.instanceMethod yX3_digitsInGroup, Cond.selects RX3 yX3_digitsInGroup yX3_digitsInGroup, Cond.code yX3_digitsInGroup cX3_digitsInGroup 4 (some .int), Cond.fieldLink RX3 95 "ScannedDigits$Digit" "group" "I"]
def wsX5_setBlink : List Cond := .code yX5_setBlink cX5_setBlink 4 (some .int) :: ((wsX5_setBlink_r1 ++ (wsX5_setBlink_r2 ++ wsX5_setBlink_r3)) ++ wsX50 ++ wsX30 ++ wsX10 ++ wsX00)
def wsX5_set_r1 : List Cond := [Cond.fieldLink RX5 96 "ScannedDigits" "LEAST_SETTINGS" "[I", Cond.fieldLink RX5 99 "ScannedDigits" "MOST_SETTINGS" "[I", Cond.fieldLink RX5 22 "ScannedDigits" "history" "LScannedDigits$History;", Cond.fieldLink RX5 10 "ScannedDigits" "now" "LScannedDigits$State;", Cond.fieldLink RX5 102 "ScannedDigits$State" "settings" "[I", Cond.methodLink RX5 40 yX5_isWithin, Cond.static yX5_isWithin, Cond.initialized RX5, Cond.code yX5_isWithin cX5_isWithin 3 (some .boolean), Cond.methodLink RX5 44 yX1_record, Cond.instanceMethod yX1_record, Cond.selects RX1 yX1_record yX1_record, Cond.initialized RX1, Cond.code yX1_record cX1_record 2 none, Cond.fieldLink RX1 11 "ScannedDigits$History" "rows" "[LScannedDigits$State;", Cond.fieldLink RX1 18 "ScannedDigits$History" "next" "I", Cond.fieldLink RX1 26 "ScannedDigits$History" "size" "I", Cond.methodLink RX1 29 Lib.Math.min.name, Cond.static Lib.Math.min.name, Cond.initialized "java/lang/Math", Cond.code Lib.Math.min.name Lib.Math.min.code 2 (some .int), Cond.methodLink RX1 22 yX3_copyFrom, Cond.instanceMethod yX3_copyFrom, Cond.selects RX3 yX3_copyFrom yX3_copyFrom]
def wsX5_set_r2 : List Cond := [Cond.initialized RX3, Cond.code yX3_copyFrom cX3_copyFrom 3 none, Cond.fieldLink RX3 11 "ScannedDigits$State" "digits" "[LScannedDigits$Digit;", Cond.fieldLink RX3 17 "ScannedDigits$State" "digitCount" "I", Cond.fieldLink RX3 21 "ScannedDigits$State" "on" "[I", Cond.methodLink RX3 44 arraycopyName, Cond.native arraycopyName, Cond.static arraycopyName, Cond.initialized "java/lang/System", Cond.fieldLink RX3 25 "ScannedDigits$State" "off" "[I", Cond.fieldLink RX3 36 "ScannedDigits$State" "settings" "[I", Cond.fieldLink RX3 50 "ScannedDigits$State" "time" "I", Cond.fieldLink RX3 53 "ScannedDigits$State" "frame" "I", Cond.fieldLink RX3 56 "ScannedDigits$State" "frameTicks" "I", Cond.fieldLink RX3 59 "ScannedDigits$State" "testFrames" "I", Cond.fieldLink RX3 62 "ScannedDigits$State" "drivenTicks" "I", Cond.fieldLink RX3 65 "ScannedDigits$State" "current" "F", Cond.fieldLink RX3 69 "ScannedDigits$State" "peak" "F", Cond.fieldLink RX3 72 "ScannedDigits$State" "charge" "F", Cond.methodLink RX3 40 yX0_copyFrom, Cond.instanceMethod yX0_copyFrom, Cond.selects RX0 yX0_copyFrom yX0_copyFrom, Cond.initialized RX0, Cond.code yX0_copyFrom cX0_copyFrom 2 none]
def wsX5_set_r3 : List Cond := [Cond.fieldLink RX0 21 "ScannedDigits$Digit" "width" "I", Cond.fieldLink RX0 25 "ScannedDigits$Digit" "guard" "I", Cond.fieldLink RX0 28 "ScannedDigits$Digit" "brightness" "I", Cond.fieldLink RX0 31 "ScannedDigits$Digit" "pattern" "I", Cond.fieldLink RX0 34 "ScannedDigits$Digit" "group" "I", Cond.fieldLink RX0 37 "ScannedDigits$Digit" "drivenTicks" "I", Cond.fieldLink RX0 43 "ScannedDigits$Digit" "broken" "I", Cond.fieldLink RX0 9 "ScannedDigits$Digit" "glow" "[I", Cond.methodLink RX0 46 arraycopyName, Cond.fieldLink RX0 15 "ScannedDigits$Digit" "use" "[I"]
def wsX5_set : List Cond := .code yX5_set cX5_set 4 (some .int) :: ((wsX5_set_r1 ++ (wsX5_set_r2 ++ wsX5_set_r3)) ++ wsX50 ++ wsX30 ++ wsX10 ++ wsX00)
def wsX5_replace_r1 : List Cond := [Cond.fieldLink RX5 10 "ScannedDigits" "now" "LScannedDigits$State;", Cond.fieldLink RX5 22 "ScannedDigits" "history" "LScannedDigits$History;", Cond.fieldLink RX5 105 "ScannedDigits$Digit" "broken" "I", Cond.methodLink RX5 56 yX3_find, Cond.instanceMethod yX3_find, Cond.selects RX3 yX3_find yX3_find, Cond.initialized RX3, Cond.code yX3_find cX3_find 2 (some (.object "ScannedDigits$Digit")), Cond.fieldLink RX3 17 "ScannedDigits$State" "digitCount" "I", Cond.fieldLink RX3 11 "ScannedDigits$State" "digits" "[LScannedDigits$Digit;", Cond.static yX5_isWithin, Cond.initialized RX5, Cond.code yX5_isWithin cX5_isWithin 3 (some .boolean), Cond.methodLink RX5 44 yX1_record, Cond.instanceMethod yX1_record, Cond.selects RX1 yX1_record yX1_record, Cond.initialized RX1, Cond.code yX1_record cX1_record 2 none, Cond.fieldLink RX1 11 "ScannedDigits$History" "rows" "[LScannedDigits$State;", Cond.fieldLink RX1 18 "ScannedDigits$History" "next" "I", Cond.fieldLink RX1 26 "ScannedDigits$History" "size" "I", Cond.methodLink RX1 29 Lib.Math.min.name, Cond.static Lib.Math.min.name, Cond.initialized "java/lang/Math"]
def wsX5_replace_r2 : List Cond := [Cond.code Lib.Math.min.name Lib.Math.min.code 2 (some .int), Cond.methodLink RX1 22 yX3_copyFrom, Cond.instanceMethod yX3_copyFrom, Cond.selects RX3 yX3_copyFrom yX3_copyFrom, Cond.code yX3_copyFrom cX3_copyFrom 3 none, Cond.fieldLink RX3 21 "ScannedDigits$State" "on" "[I", Cond.methodLink RX3 44 arraycopyName, Cond.native arraycopyName, Cond.static arraycopyName, Cond.initialized "java/lang/System", Cond.fieldLink RX3 25 "ScannedDigits$State" "off" "[I", Cond.fieldLink RX3 36 "ScannedDigits$State" "settings" "[I", Cond.fieldLink RX3 50 "ScannedDigits$State" "time" "I", Cond.fieldLink RX3 53 "ScannedDigits$State" "frame" "I", Cond.fieldLink RX3 56 "ScannedDigits$State" "frameTicks" "I", Cond.fieldLink RX3 59 "ScannedDigits$State" "testFrames" "I", Cond.fieldLink RX3 62 "ScannedDigits$State" "drivenTicks" "I", Cond.fieldLink RX3 65 "ScannedDigits$State" "current" "F", Cond.fieldLink RX3 69 "ScannedDigits$State" "peak" "F", Cond.fieldLink RX3 72 "ScannedDigits$State" "charge" "F", Cond.methodLink RX3 40 yX0_copyFrom, Cond.instanceMethod yX0_copyFrom, Cond.selects RX0 yX0_copyFrom yX0_copyFrom, Cond.initialized RX0]
def wsX5_replace_r3 : List Cond := [Cond.code yX0_copyFrom cX0_copyFrom 2 none, Cond.fieldLink RX0 21 "ScannedDigits$Digit" "width" "I", Cond.fieldLink RX0 25 "ScannedDigits$Digit" "guard" "I", Cond.fieldLink RX0 28 "ScannedDigits$Digit" "brightness" "I", Cond.fieldLink RX0 31 "ScannedDigits$Digit" "pattern" "I", Cond.fieldLink RX0 34 "ScannedDigits$Digit" "group" "I", Cond.fieldLink RX0 37 "ScannedDigits$Digit" "drivenTicks" "I", Cond.fieldLink RX0 43 "ScannedDigits$Digit" "broken" "I", Cond.fieldLink RX0 9 "ScannedDigits$Digit" "glow" "[I", Cond.methodLink RX0 46 arraycopyName, Cond.fieldLink RX0 15 "ScannedDigits$Digit" "use" "[I", Cond.methodLink RX5 108 yJ6_bitCount_0f7a4, Cond.static yJ6_bitCount_0f7a4, Cond.initialized RJ6, Cond.code yJ6_bitCount_0f7a4 cJ6_bitCount_0f7a4 1 (some .int), Cond.constant RJ6 265 (1431655765), Cond.constant RJ6 266 (858993459), Cond.constant RJ6 267 (252645135), Cond.methodLink RX5 113 yX0_renewSegments, Cond.instanceMethod yX0_renewSegments, Cond.selects RX0 yX0_renewSegments yX0_renewSegments, Cond.code yX0_renewSegments cX0_renewSegments 2 none]
def wsX5_replace : List Cond := .code yX5_replace cX5_replace 4 (some .int) :: ((wsX5_replace_r1 ++ (wsX5_replace_r2 ++ wsX5_replace_r3)) ++ wsX50 ++ wsX00 ++ wsX30 ++ wsX10)
def wsX5_test_r1 : List Cond := [Cond.fieldLink RX5 22 "ScannedDigits" "history" "LScannedDigits$History;", Cond.fieldLink RX5 10 "ScannedDigits" "now" "LScannedDigits$State;", Cond.fieldLink RX5 116 "ScannedDigits$State" "testFrames" "I", Cond.methodLink RX5 40 yX5_isWithin, Cond.static yX5_isWithin, Cond.initialized RX5, Cond.code yX5_isWithin cX5_isWithin 3 (some .boolean), Cond.methodLink RX5 44 yX1_record, Cond.instanceMethod yX1_record, Cond.selects RX1 yX1_record yX1_record, Cond.initialized RX1, Cond.code yX1_record cX1_record 2 none, Cond.fieldLink RX1 11 "ScannedDigits$History" "rows" "[LScannedDigits$State;", Cond.fieldLink RX1 18 "ScannedDigits$History" "next" "I", Cond.fieldLink RX1 26 "ScannedDigits$History" "size" "I", Cond.methodLink RX1 29 Lib.Math.min.name, Cond.static Lib.Math.min.name, Cond.initialized "java/lang/Math", Cond.code Lib.Math.min.name Lib.Math.min.code 2 (some .int), Cond.methodLink RX1 22 yX3_copyFrom, Cond.instanceMethod yX3_copyFrom, Cond.selects RX3 yX3_copyFrom yX3_copyFrom, Cond.initialized RX3, Cond.code yX3_copyFrom cX3_copyFrom 3 none]
def wsX5_test_r2 : List Cond := [Cond.fieldLink RX3 11 "ScannedDigits$State" "digits" "[LScannedDigits$Digit;", Cond.fieldLink RX3 17 "ScannedDigits$State" "digitCount" "I", Cond.fieldLink RX3 21 "ScannedDigits$State" "on" "[I", Cond.methodLink RX3 44 arraycopyName, Cond.native arraycopyName, Cond.static arraycopyName, Cond.initialized "java/lang/System", Cond.fieldLink RX3 25 "ScannedDigits$State" "off" "[I", Cond.fieldLink RX3 36 "ScannedDigits$State" "settings" "[I", Cond.fieldLink RX3 50 "ScannedDigits$State" "time" "I", Cond.fieldLink RX3 53 "ScannedDigits$State" "frame" "I", Cond.fieldLink RX3 56 "ScannedDigits$State" "frameTicks" "I", Cond.fieldLink RX3 59 "ScannedDigits$State" "testFrames" "I", Cond.fieldLink RX3 62 "ScannedDigits$State" "drivenTicks" "I", Cond.fieldLink RX3 65 "ScannedDigits$State" "current" "F", Cond.fieldLink RX3 69 "ScannedDigits$State" "peak" "F", Cond.fieldLink RX3 72 "ScannedDigits$State" "charge" "F", Cond.methodLink RX3 40 yX0_copyFrom, Cond.instanceMethod yX0_copyFrom, Cond.selects RX0 yX0_copyFrom yX0_copyFrom, Cond.initialized RX0, Cond.code yX0_copyFrom cX0_copyFrom 2 none, Cond.fieldLink RX0 21 "ScannedDigits$Digit" "width" "I", Cond.fieldLink RX0 25 "ScannedDigits$Digit" "guard" "I"]
def wsX5_test_r3 : List Cond := [Cond.fieldLink RX0 28 "ScannedDigits$Digit" "brightness" "I", Cond.fieldLink RX0 31 "ScannedDigits$Digit" "pattern" "I", Cond.fieldLink RX0 34 "ScannedDigits$Digit" "group" "I", Cond.fieldLink RX0 37 "ScannedDigits$Digit" "drivenTicks" "I", Cond.fieldLink RX0 43 "ScannedDigits$Digit" "broken" "I", Cond.fieldLink RX0 9 "ScannedDigits$Digit" "glow" "[I", Cond.methodLink RX0 46 arraycopyName, Cond.fieldLink RX0 15 "ScannedDigits$Digit" "use" "[I"]
def wsX5_test : List Cond := .code yX5_test cX5_test 3 (some .int) :: ((wsX5_test_r1 ++ (wsX5_test_r2 ++ wsX5_test_r3)) ++ wsX50 ++ wsX30 ++ wsX10 ++ wsX00)
def wsX5_pass_r1 : List Cond := [Cond.fieldLink RX5 22 "ScannedDigits" "history" "LScannedDigits$History;", Cond.fieldLink RX5 10 "ScannedDigits" "now" "LScannedDigits$State;", Cond.methodLink RX5 40 yX5_isWithin, Cond.static yX5_isWithin, Cond.initialized RX5, Cond.code yX5_isWithin cX5_isWithin 3 (some .boolean), Cond.methodLink RX5 44 yX1_record, Cond.instanceMethod yX1_record, Cond.selects RX1 yX1_record yX1_record, Cond.initialized RX1, Cond.code yX1_record cX1_record 2 none, Cond.fieldLink RX1 11 "ScannedDigits$History" "rows" "[LScannedDigits$State;", Cond.fieldLink RX1 18 "ScannedDigits$History" "next" "I", Cond.fieldLink RX1 26 "ScannedDigits$History" "size" "I", Cond.methodLink RX1 29 Lib.Math.min.name, Cond.static Lib.Math.min.name, Cond.initialized "java/lang/Math", Cond.code Lib.Math.min.name Lib.Math.min.code 2 (some .int), Cond.methodLink RX1 22 yX3_copyFrom, Cond.instanceMethod yX3_copyFrom, Cond.selects RX3 yX3_copyFrom yX3_copyFrom, Cond.initialized RX3, Cond.code yX3_copyFrom cX3_copyFrom 3 none, Cond.fieldLink RX3 11 "ScannedDigits$State" "digits" "[LScannedDigits$Digit;"]
def wsX5_pass_r2 : List Cond := [Cond.fieldLink RX3 17 "ScannedDigits$State" "digitCount" "I", Cond.fieldLink RX3 21 "ScannedDigits$State" "on" "[I", Cond.methodLink RX3 44 arraycopyName, Cond.native arraycopyName, Cond.static arraycopyName, Cond.initialized "java/lang/System", Cond.fieldLink RX3 25 "ScannedDigits$State" "off" "[I", Cond.fieldLink RX3 36 "ScannedDigits$State" "settings" "[I", Cond.fieldLink RX3 50 "ScannedDigits$State" "time" "I", Cond.fieldLink RX3 53 "ScannedDigits$State" "frame" "I", Cond.fieldLink RX3 56 "ScannedDigits$State" "frameTicks" "I", Cond.fieldLink RX3 59 "ScannedDigits$State" "testFrames" "I", Cond.fieldLink RX3 62 "ScannedDigits$State" "drivenTicks" "I", Cond.fieldLink RX3 65 "ScannedDigits$State" "current" "F", Cond.fieldLink RX3 69 "ScannedDigits$State" "peak" "F", Cond.fieldLink RX3 72 "ScannedDigits$State" "charge" "F", Cond.methodLink RX3 40 yX0_copyFrom, Cond.instanceMethod yX0_copyFrom, Cond.selects RX0 yX0_copyFrom yX0_copyFrom, Cond.initialized RX0, Cond.code yX0_copyFrom cX0_copyFrom 2 none, Cond.fieldLink RX0 21 "ScannedDigits$Digit" "width" "I", Cond.fieldLink RX0 25 "ScannedDigits$Digit" "guard" "I", Cond.fieldLink RX0 28 "ScannedDigits$Digit" "brightness" "I"]
def wsX5_pass_r3 : List Cond := [Cond.fieldLink RX0 31 "ScannedDigits$Digit" "pattern" "I", Cond.fieldLink RX0 34 "ScannedDigits$Digit" "group" "I", Cond.fieldLink RX0 37 "ScannedDigits$Digit" "drivenTicks" "I", Cond.fieldLink RX0 43 "ScannedDigits$Digit" "broken" "I", Cond.fieldLink RX0 9 "ScannedDigits$Digit" "glow" "[I", Cond.methodLink RX0 46 arraycopyName, Cond.fieldLink RX0 15 "ScannedDigits$Digit" "use" "[I", Cond.methodLink RX5 119 yX3_runTicks, Cond.instanceMethod yX3_runTicks, Cond.selects RX3 yX3_runTicks yX3_runTicks, Cond.code yX3_runTicks cX3_runTicks 4 (some .int), Cond.methodLink RX3 123 yX3_runTick, Cond.instanceMethod yX3_runTick, Cond.selects RX3 yX3_runTick yX3_runTick, Cond.code yX3_runTick cX3_runTick 4 (some .int), Cond.fieldLink RX3 129 "ScannedDigits$Digit" "drivenTicks" "I", Cond.methodLink RX3 116 yX3_slotNow, Cond.instanceMethod yX3_slotNow, Cond.selects RX3 yX3_slotNow yX3_slotNow, Cond.code yX3_slotNow cX3_slotNow 3 (some .int), Cond.fieldLink RX3 85 "ScannedDigits$Digit" "width" "I", Cond.methodLink RX3 126 yX3_litNext, Cond.instanceMethod yX3_litNext, Cond.selects RX3 yX3_litNext yX3_litNext]
def wsX5_pass_r4 : List Cond := [Cond.code yX3_litNext cX3_litNext 3 (some .int), Cond.fieldLink RX3 88 "ScannedDigits$Digit" "pattern" "I", Cond.fieldLink RX3 98 "ScannedDigits$Digit" "broken" "I", Cond.methodLink RX3 120 yX3_isDriven, Cond.instanceMethod yX3_isDriven, Cond.selects RX3 yX3_isDriven yX3_isDriven, Cond.code yX3_isDriven cX3_isDriven 5 (some .boolean), Cond.fieldLink RX3 106 "ScannedDigits$Digit" "brightness" "I", Cond.fieldLink RX3 95 "ScannedDigits$Digit" "group" "I", Cond.methodLink RX3 109 yX0_litPartAt, Cond.instanceMethod yX0_litPartAt, Cond.selects RX0 yX0_litPartAt yX0_litPartAt, Cond.code yX0_litPartAt cX0_litPartAt 2 (some .int), Cond.methodLink RX3 91 yX3_slotStart, Cond.instanceMethod yX3_slotStart, Cond.selects RX3 yX3_slotStart yX3_slotStart, Cond.code yX3_slotStart cX3_slotStart 4 (some .int), Cond.methodLink RX3 112 yX3_isGroupOn, Cond.instanceMethod yX3_isGroupOn, Cond.selects RX3 yX3_isGroupOn yX3_isGroupOn, Cond.code yX3_isGroupOn cX3_isGroupOn 3 (some .boolean), Cond.methodLink RX3 130 yX0_runTick, Cond.instanceMethod yX0_runTick, Cond.selects RX0 yX0_runTick yX0_runTick]
def wsX5_pass_r5 : List Cond := [Cond.code yX0_runTick cX0_runTick 5 none, Cond.static yX5_glowUnlit, Cond.code yX5_glowUnlit cX5_glowUnlit 3 (some .int), Cond.methodLink RX5 234 Lib.Math.max.name, Cond.static Lib.Math.max.name, Cond.code Lib.Math.max.name Lib.Math.max.code 2 (some .int), Cond.static yX5_glowLit, Cond.code yX5_glowLit cX5_glowLit 2 (some .int), Cond.methodLink RX5 240 Lib.Math.min.name, Cond.methodLink RX3 101 yJ6_bitCount_0f7a4, Cond.static yJ6_bitCount_0f7a4, Cond.initialized RJ6, Cond.code yJ6_bitCount_0f7a4 cJ6_bitCount_0f7a4 1 (some .int), Cond.constant RJ6 265 (1431655765), Cond.constant RJ6 266 (858993459), Cond.constant RJ6 267 (252645135), Cond.methodLink RX3 133 yX3_runCurrent, Cond.instanceMethod yX3_runCurrent, Cond.selects RX3 yX3_runCurrent yX3_runCurrent, Cond.code yX3_runCurrent cX3_runCurrent 2 none, Cond.constantFloat RX3 140 (1075838976), Cond.constantFloat RX3 141 (1040187392), Cond.constantFloat RX3 142 (981668463), Cond.methodLink RX3 137 yX3_frameLength]
def wsX5_pass_r6 : List Cond := [Cond.instanceMethod yX3_frameLength, Cond.selects RX3 yX3_frameLength yX3_frameLength, Cond.code yX3_frameLength cX3_frameLength 1 (some .int), Cond.methodLink RX3 82 yX3_beginFrame, Cond.instanceMethod yX3_beginFrame, Cond.selects RX3 yX3_beginFrame yX3_beginFrame, Cond.code yX3_beginFrame cX3_beginFrame 1 none]
def wsX5_pass : List Cond := .code yX5_pass cX5_pass 2 (some .int) :: ((wsX5_pass_r1 ++ (wsX5_pass_r2 ++ (wsX5_pass_r3 ++ (wsX5_pass_r4 ++ (wsX5_pass_r5 ++ wsX5_pass_r6))))) ++ wsX50 ++ wsX10 ++ wsX30 ++ wsX00)
def wsX5_passFrames_r1 : List Cond := [Cond.fieldLink RX5 22 "ScannedDigits" "history" "LScannedDigits$History;", Cond.fieldLink RX5 10 "ScannedDigits" "now" "LScannedDigits$State;", Cond.fieldLink RX5 122 "ScannedDigits$State" "frameTicks" "I", Cond.fieldLink RX5 125 "ScannedDigits$State" "time" "I", Cond.methodLink RX5 40 yX5_isWithin, Cond.static yX5_isWithin, Cond.initialized RX5, Cond.code yX5_isWithin cX5_isWithin 3 (some .boolean), Cond.methodLink RX5 44 yX1_record, Cond.instanceMethod yX1_record, Cond.selects RX1 yX1_record yX1_record, Cond.initialized RX1, Cond.code yX1_record cX1_record 2 none, Cond.fieldLink RX1 11 "ScannedDigits$History" "rows" "[LScannedDigits$State;", Cond.fieldLink RX1 18 "ScannedDigits$History" "next" "I", Cond.fieldLink RX1 26 "ScannedDigits$History" "size" "I", Cond.methodLink RX1 29 Lib.Math.min.name, Cond.static Lib.Math.min.name, Cond.initialized "java/lang/Math", Cond.code Lib.Math.min.name Lib.Math.min.code 2 (some .int), Cond.methodLink RX1 22 yX3_copyFrom, Cond.instanceMethod yX3_copyFrom, Cond.selects RX3 yX3_copyFrom yX3_copyFrom, Cond.initialized RX3]
def wsX5_passFrames_r2 : List Cond := [Cond.code yX3_copyFrom cX3_copyFrom 3 none, Cond.fieldLink RX3 11 "ScannedDigits$State" "digits" "[LScannedDigits$Digit;", Cond.fieldLink RX3 17 "ScannedDigits$State" "digitCount" "I", Cond.fieldLink RX3 21 "ScannedDigits$State" "on" "[I", Cond.methodLink RX3 44 arraycopyName, Cond.native arraycopyName, Cond.static arraycopyName, Cond.initialized "java/lang/System", Cond.fieldLink RX3 25 "ScannedDigits$State" "off" "[I", Cond.fieldLink RX3 36 "ScannedDigits$State" "settings" "[I", Cond.fieldLink RX3 50 "ScannedDigits$State" "time" "I", Cond.fieldLink RX3 53 "ScannedDigits$State" "frame" "I", Cond.fieldLink RX3 56 "ScannedDigits$State" "frameTicks" "I", Cond.fieldLink RX3 59 "ScannedDigits$State" "testFrames" "I", Cond.fieldLink RX3 62 "ScannedDigits$State" "drivenTicks" "I", Cond.fieldLink RX3 65 "ScannedDigits$State" "current" "F", Cond.fieldLink RX3 69 "ScannedDigits$State" "peak" "F", Cond.fieldLink RX3 72 "ScannedDigits$State" "charge" "F", Cond.methodLink RX3 40 yX0_copyFrom, Cond.instanceMethod yX0_copyFrom, Cond.selects RX0 yX0_copyFrom yX0_copyFrom, Cond.initialized RX0, Cond.code yX0_copyFrom cX0_copyFrom 2 none, Cond.fieldLink RX0 21 "ScannedDigits$Digit" "width" "I"]
def wsX5_passFrames_r3 : List Cond := [Cond.fieldLink RX0 25 "ScannedDigits$Digit" "guard" "I", Cond.fieldLink RX0 28 "ScannedDigits$Digit" "brightness" "I", Cond.fieldLink RX0 31 "ScannedDigits$Digit" "pattern" "I", Cond.fieldLink RX0 34 "ScannedDigits$Digit" "group" "I", Cond.fieldLink RX0 37 "ScannedDigits$Digit" "drivenTicks" "I", Cond.fieldLink RX0 43 "ScannedDigits$Digit" "broken" "I", Cond.fieldLink RX0 9 "ScannedDigits$Digit" "glow" "[I", Cond.methodLink RX0 46 arraycopyName, Cond.fieldLink RX0 15 "ScannedDigits$Digit" "use" "[I", Cond.methodLink RX5 64 yX3_frameLength, Cond.instanceMethod yX3_frameLength, Cond.selects RX3 yX3_frameLength yX3_frameLength, Cond.code yX3_frameLength cX3_frameLength 1 (some .int), Cond.methodLink RX3 91 yX3_slotStart, Cond.instanceMethod yX3_slotStart, Cond.selects RX3 yX3_slotStart yX3_slotStart, Cond.code yX3_slotStart cX3_slotStart 4 (some .int), Cond.fieldLink RX3 85 "ScannedDigits$Digit" "width" "I", Cond.methodLink RX5 119 yX3_runTicks, Cond.instanceMethod yX3_runTicks, Cond.selects RX3 yX3_runTicks yX3_runTicks, Cond.code yX3_runTicks cX3_runTicks 4 (some .int), Cond.methodLink RX3 123 yX3_runTick, Cond.instanceMethod yX3_runTick]
def wsX5_passFrames_r4 : List Cond := [Cond.selects RX3 yX3_runTick yX3_runTick, Cond.code yX3_runTick cX3_runTick 4 (some .int), Cond.fieldLink RX3 129 "ScannedDigits$Digit" "drivenTicks" "I", Cond.methodLink RX3 116 yX3_slotNow, Cond.instanceMethod yX3_slotNow, Cond.selects RX3 yX3_slotNow yX3_slotNow, Cond.code yX3_slotNow cX3_slotNow 3 (some .int), Cond.methodLink RX3 126 yX3_litNext, Cond.instanceMethod yX3_litNext, Cond.selects RX3 yX3_litNext yX3_litNext, Cond.code yX3_litNext cX3_litNext 3 (some .int), Cond.fieldLink RX3 88 "ScannedDigits$Digit" "pattern" "I", Cond.fieldLink RX3 98 "ScannedDigits$Digit" "broken" "I", Cond.methodLink RX3 120 yX3_isDriven, Cond.instanceMethod yX3_isDriven, Cond.selects RX3 yX3_isDriven yX3_isDriven, Cond.code yX3_isDriven cX3_isDriven 5 (some .boolean), Cond.fieldLink RX3 106 "ScannedDigits$Digit" "brightness" "I", Cond.fieldLink RX3 95 "ScannedDigits$Digit" "group" "I", Cond.methodLink RX3 109 yX0_litPartAt, Cond.instanceMethod yX0_litPartAt, Cond.selects RX0 yX0_litPartAt yX0_litPartAt, Cond.code yX0_litPartAt cX0_litPartAt 2 (some .int), Cond.methodLink RX3 112 yX3_isGroupOn]
def wsX5_passFrames_r5 : List Cond := [Cond.instanceMethod yX3_isGroupOn, Cond.selects RX3 yX3_isGroupOn yX3_isGroupOn, Cond.code yX3_isGroupOn cX3_isGroupOn 3 (some .boolean), Cond.methodLink RX3 130 yX0_runTick, Cond.instanceMethod yX0_runTick, Cond.selects RX0 yX0_runTick yX0_runTick, Cond.code yX0_runTick cX0_runTick 5 none, Cond.static yX5_glowUnlit, Cond.code yX5_glowUnlit cX5_glowUnlit 3 (some .int), Cond.methodLink RX5 234 Lib.Math.max.name, Cond.static Lib.Math.max.name, Cond.code Lib.Math.max.name Lib.Math.max.code 2 (some .int), Cond.static yX5_glowLit, Cond.code yX5_glowLit cX5_glowLit 2 (some .int), Cond.methodLink RX5 240 Lib.Math.min.name, Cond.methodLink RX3 101 yJ6_bitCount_0f7a4, Cond.static yJ6_bitCount_0f7a4, Cond.initialized RJ6, Cond.code yJ6_bitCount_0f7a4 cJ6_bitCount_0f7a4 1 (some .int), Cond.constant RJ6 265 (1431655765), Cond.constant RJ6 266 (858993459), Cond.constant RJ6 267 (252645135), Cond.methodLink RX3 133 yX3_runCurrent, Cond.instanceMethod yX3_runCurrent]
def wsX5_passFrames_r6 : List Cond := [Cond.selects RX3 yX3_runCurrent yX3_runCurrent, Cond.code yX3_runCurrent cX3_runCurrent 2 none, Cond.constantFloat RX3 140 (1075838976), Cond.constantFloat RX3 141 (1040187392), Cond.constantFloat RX3 142 (981668463), Cond.methodLink RX3 137 yX3_frameLength, Cond.methodLink RX3 82 yX3_beginFrame, Cond.instanceMethod yX3_beginFrame, Cond.selects RX3 yX3_beginFrame yX3_beginFrame, Cond.code yX3_beginFrame cX3_beginFrame 1 none]
def wsX5_passFrames : List Cond := .code yX5_passFrames cX5_passFrames 3 (some .int) :: ((wsX5_passFrames_r1 ++ (wsX5_passFrames_r2 ++ (wsX5_passFrames_r3 ++ (wsX5_passFrames_r4 ++ (wsX5_passFrames_r5 ++ wsX5_passFrames_r6))))) ++ wsX50 ++ wsX30 ++ wsX10 ++ wsX00)
def wsX5_type : List Cond := .code yX5_type cX5_type 2 (some .int) :: ([.fieldLink RX5 35 "ScannedDigits" "text" "LScannedDigits$Text;", .fieldLink RX5 136 "ScannedDigits$Text" "length" "I", .methodLink RX5 128 yX4_isFull, .instanceMethod yX4_isFull, .selects RX4 yX4_isFull yX4_isFull, .initialized RX4, .code yX4_isFull cX4_isFull 1 (some .boolean), .fieldLink RX4 19 "ScannedDigits$Text" "length" "I", .methodLink RX5 132 yX4_append, .instanceMethod yX4_append, .selects RX4 yX4_append yX4_append, .code yX4_append cX4_append 2 none, .fieldLink RX4 9 "ScannedDigits$Text" "characters" "[C"] ++ wsX50 ++ wsX40)
def wsX5_clearText : List Cond := .code yX5_clearText cX5_clearText 2 (some .int) :: ([.fieldLink RX5 35 "ScannedDigits" "text" "LScannedDigits$Text;", .fieldLink RX5 136 "ScannedDigits$Text" "length" "I"] ++ wsX50 ++ wsX40)
def wsX5_show_r1 : List Cond := [Cond.fieldLink RX5 35 "ScannedDigits" "text" "LScannedDigits$Text;", Cond.fieldLink RX5 10 "ScannedDigits" "now" "LScannedDigits$State;", Cond.fieldLink RX5 48 "ScannedDigits$State" "digitCount" "I", Cond.fieldLink RX5 22 "ScannedDigits" "history" "LScannedDigits$History;", Cond.fieldLink RX5 142 "ScannedDigits$Text" "patterns" "[I", Cond.fieldLink RX5 149 "ScannedDigits$Text" "needed" "I", Cond.methodLink RX5 139 yX4_layOut, Cond.instanceMethod yX4_layOut, Cond.selects RX4 yX4_layOut yX4_layOut, Cond.initialized RX4, Cond.code yX4_layOut cX4_layOut 6 (some .int), Cond.fieldLink RX4 15 "ScannedDigits$Text" "patterns" "[I", Cond.fieldLink RX4 23 "ScannedDigits$Text" "needed" "I", Cond.fieldLink RX4 19 "ScannedDigits$Text" "length" "I", Cond.fieldLink RX4 9 "ScannedDigits$Text" "characters" "[C", Cond.static yX5_patternOf, Cond.initialized RX5, Cond.code yX5_patternOf cX5_patternOf 2 (some .int), Cond.fieldLink RX5 230 "ScannedDigits" "CHARACTERS" "[C", Cond.fieldLink RX5 227 "ScannedDigits" "PATTERNS" "[I", Cond.methodLink RX5 44 yX1_record, Cond.instanceMethod yX1_record, Cond.selects RX1 yX1_record yX1_record, Cond.initialized RX1]
def wsX5_show_r2 : List Cond := [Cond.code yX1_record cX1_record 2 none, Cond.fieldLink RX1 11 "ScannedDigits$History" "rows" "[LScannedDigits$State;", Cond.fieldLink RX1 18 "ScannedDigits$History" "next" "I", Cond.fieldLink RX1 26 "ScannedDigits$History" "size" "I", Cond.methodLink RX1 29 Lib.Math.min.name, Cond.static Lib.Math.min.name, Cond.initialized "java/lang/Math", Cond.code Lib.Math.min.name Lib.Math.min.code 2 (some .int), Cond.methodLink RX1 22 yX3_copyFrom, Cond.instanceMethod yX3_copyFrom, Cond.selects RX3 yX3_copyFrom yX3_copyFrom, Cond.initialized RX3, Cond.code yX3_copyFrom cX3_copyFrom 3 none, Cond.fieldLink RX3 11 "ScannedDigits$State" "digits" "[LScannedDigits$Digit;", Cond.fieldLink RX3 17 "ScannedDigits$State" "digitCount" "I", Cond.fieldLink RX3 21 "ScannedDigits$State" "on" "[I", Cond.methodLink RX3 44 arraycopyName, Cond.native arraycopyName, Cond.static arraycopyName, Cond.initialized "java/lang/System", Cond.fieldLink RX3 25 "ScannedDigits$State" "off" "[I", Cond.fieldLink RX3 36 "ScannedDigits$State" "settings" "[I", Cond.fieldLink RX3 50 "ScannedDigits$State" "time" "I", Cond.fieldLink RX3 53 "ScannedDigits$State" "frame" "I"]
def wsX5_show_r3 : List Cond := [Cond.fieldLink RX3 56 "ScannedDigits$State" "frameTicks" "I", Cond.fieldLink RX3 59 "ScannedDigits$State" "testFrames" "I", Cond.fieldLink RX3 62 "ScannedDigits$State" "drivenTicks" "I", Cond.fieldLink RX3 65 "ScannedDigits$State" "current" "F", Cond.fieldLink RX3 69 "ScannedDigits$State" "peak" "F", Cond.fieldLink RX3 72 "ScannedDigits$State" "charge" "F", Cond.methodLink RX3 40 yX0_copyFrom, Cond.instanceMethod yX0_copyFrom, Cond.selects RX0 yX0_copyFrom yX0_copyFrom, Cond.initialized RX0, Cond.code yX0_copyFrom cX0_copyFrom 2 none, Cond.fieldLink RX0 21 "ScannedDigits$Digit" "width" "I", Cond.fieldLink RX0 25 "ScannedDigits$Digit" "guard" "I", Cond.fieldLink RX0 28 "ScannedDigits$Digit" "brightness" "I", Cond.fieldLink RX0 31 "ScannedDigits$Digit" "pattern" "I", Cond.fieldLink RX0 34 "ScannedDigits$Digit" "group" "I", Cond.fieldLink RX0 37 "ScannedDigits$Digit" "drivenTicks" "I", Cond.fieldLink RX0 43 "ScannedDigits$Digit" "broken" "I", Cond.fieldLink RX0 9 "ScannedDigits$Digit" "glow" "[I", Cond.methodLink RX0 46 arraycopyName, Cond.fieldLink RX0 15 "ScannedDigits$Digit" "use" "[I", Cond.methodLink RX5 145 yX3_takePatterns, Cond.instanceMethod yX3_takePatterns, Cond.selects RX3 yX3_takePatterns yX3_takePatterns]
def wsX5_show_r4 : List Cond := [Cond.code yX3_takePatterns cX3_takePatterns 3 none, Cond.fieldLink RX3 88 "ScannedDigits$Digit" "pattern" "I"]
def wsX5_show : List Cond := .code yX5_show cX5_show 2 (some .int) :: ((wsX5_show_r1 ++ (wsX5_show_r2 ++ (wsX5_show_r3 ++ wsX5_show_r4))) ++ wsX50 ++ wsX30 ++ wsX40 ++ wsX10 ++ wsX00)
def wsX5_undo_r1 : List Cond := [Cond.fieldLink RX5 22 "ScannedDigits" "history" "LScannedDigits$History;", Cond.fieldLink RX5 152 "ScannedDigits$History" "size" "I", Cond.fieldLink RX5 10 "ScannedDigits" "now" "LScannedDigits$State;", Cond.methodLink RX5 155 yX1_takeBack, Cond.instanceMethod yX1_takeBack, Cond.selects RX1 yX1_takeBack yX1_takeBack, Cond.initialized RX1, Cond.code yX1_takeBack cX1_takeBack 2 none, Cond.fieldLink RX1 18 "ScannedDigits$History" "next" "I", Cond.fieldLink RX1 11 "ScannedDigits$History" "rows" "[LScannedDigits$State;", Cond.fieldLink RX1 26 "ScannedDigits$History" "size" "I", Cond.methodLink RX1 22 yX3_copyFrom, Cond.instanceMethod yX3_copyFrom, Cond.selects RX3 yX3_copyFrom yX3_copyFrom, Cond.initialized RX3, Cond.code yX3_copyFrom cX3_copyFrom 3 none, Cond.fieldLink RX3 11 "ScannedDigits$State" "digits" "[LScannedDigits$Digit;", Cond.fieldLink RX3 17 "ScannedDigits$State" "digitCount" "I", Cond.fieldLink RX3 21 "ScannedDigits$State" "on" "[I", Cond.methodLink RX3 44 arraycopyName, Cond.native arraycopyName, Cond.static arraycopyName, Cond.initialized "java/lang/System", Cond.fieldLink RX3 25 "ScannedDigits$State" "off" "[I"]
def wsX5_undo_r2 : List Cond := [Cond.fieldLink RX3 36 "ScannedDigits$State" "settings" "[I", Cond.fieldLink RX3 50 "ScannedDigits$State" "time" "I", Cond.fieldLink RX3 53 "ScannedDigits$State" "frame" "I", Cond.fieldLink RX3 56 "ScannedDigits$State" "frameTicks" "I", Cond.fieldLink RX3 59 "ScannedDigits$State" "testFrames" "I", Cond.fieldLink RX3 62 "ScannedDigits$State" "drivenTicks" "I", Cond.fieldLink RX3 65 "ScannedDigits$State" "current" "F", Cond.fieldLink RX3 69 "ScannedDigits$State" "peak" "F", Cond.fieldLink RX3 72 "ScannedDigits$State" "charge" "F", Cond.methodLink RX3 40 yX0_copyFrom, Cond.instanceMethod yX0_copyFrom, Cond.selects RX0 yX0_copyFrom yX0_copyFrom, Cond.initialized RX0, Cond.code yX0_copyFrom cX0_copyFrom 2 none, Cond.fieldLink RX0 21 "ScannedDigits$Digit" "width" "I", Cond.fieldLink RX0 25 "ScannedDigits$Digit" "guard" "I", Cond.fieldLink RX0 28 "ScannedDigits$Digit" "brightness" "I", Cond.fieldLink RX0 31 "ScannedDigits$Digit" "pattern" "I", Cond.fieldLink RX0 34 "ScannedDigits$Digit" "group" "I", Cond.fieldLink RX0 37 "ScannedDigits$Digit" "drivenTicks" "I", Cond.fieldLink RX0 43 "ScannedDigits$Digit" "broken" "I", Cond.fieldLink RX0 9 "ScannedDigits$Digit" "glow" "[I", Cond.methodLink RX0 46 arraycopyName, Cond.fieldLink RX0 15 "ScannedDigits$Digit" "use" "[I"]
def wsX5_undo : List Cond := .code yX5_undo cX5_undo 1 (some .int) :: ((wsX5_undo_r1 ++ wsX5_undo_r2) ++ wsX50 ++ wsX10 ++ wsX30 ++ wsX00)
def wsX5_keep_r1 : List Cond := [Cond.fieldLink RX5 28 "ScannedDigits" "snapshots" "[LScannedDigits$Snapshot;", Cond.fieldLink RX5 158 "ScannedDigits$Snapshot" "state" "LScannedDigits$State;", Cond.fieldLink RX5 10 "ScannedDigits" "now" "LScannedDigits$State;", Cond.fieldLink RX5 164 "ScannedDigits$Snapshot" "isTaken" "Z", Cond.fieldLink RX5 125 "ScannedDigits$State" "time" "I", Cond.methodLink RX5 40 yX5_isWithin, Cond.static yX5_isWithin, Cond.initialized RX5, Cond.code yX5_isWithin cX5_isWithin 3 (some .boolean), Cond.methodLink RX5 161 yX3_copyFrom, Cond.instanceMethod yX3_copyFrom, Cond.selects RX3 yX3_copyFrom yX3_copyFrom, Cond.initialized RX3, Cond.code yX3_copyFrom cX3_copyFrom 3 none, Cond.fieldLink RX3 11 "ScannedDigits$State" "digits" "[LScannedDigits$Digit;", Cond.fieldLink RX3 17 "ScannedDigits$State" "digitCount" "I", Cond.fieldLink RX3 21 "ScannedDigits$State" "on" "[I", Cond.methodLink RX3 44 arraycopyName, Cond.native arraycopyName, Cond.static arraycopyName, Cond.initialized "java/lang/System", Cond.fieldLink RX3 25 "ScannedDigits$State" "off" "[I", Cond.fieldLink RX3 36 "ScannedDigits$State" "settings" "[I", Cond.fieldLink RX3 50 "ScannedDigits$State" "time" "I"]
def wsX5_keep_r2 : List Cond := [Cond.fieldLink RX3 53 "ScannedDigits$State" "frame" "I", Cond.fieldLink RX3 56 "ScannedDigits$State" "frameTicks" "I", Cond.fieldLink RX3 59 "ScannedDigits$State" "testFrames" "I", Cond.fieldLink RX3 62 "ScannedDigits$State" "drivenTicks" "I", Cond.fieldLink RX3 65 "ScannedDigits$State" "current" "F", Cond.fieldLink RX3 69 "ScannedDigits$State" "peak" "F", Cond.fieldLink RX3 72 "ScannedDigits$State" "charge" "F", Cond.methodLink RX3 40 yX0_copyFrom, Cond.instanceMethod yX0_copyFrom, Cond.selects RX0 yX0_copyFrom yX0_copyFrom, Cond.initialized RX0, Cond.code yX0_copyFrom cX0_copyFrom 2 none, Cond.fieldLink RX0 21 "ScannedDigits$Digit" "width" "I", Cond.fieldLink RX0 25 "ScannedDigits$Digit" "guard" "I", Cond.fieldLink RX0 28 "ScannedDigits$Digit" "brightness" "I", Cond.fieldLink RX0 31 "ScannedDigits$Digit" "pattern" "I", Cond.fieldLink RX0 34 "ScannedDigits$Digit" "group" "I", Cond.fieldLink RX0 37 "ScannedDigits$Digit" "drivenTicks" "I", Cond.fieldLink RX0 43 "ScannedDigits$Digit" "broken" "I", Cond.fieldLink RX0 9 "ScannedDigits$Digit" "glow" "[I", Cond.methodLink RX0 46 arraycopyName, Cond.fieldLink RX0 15 "ScannedDigits$Digit" "use" "[I"]
def wsX5_keep : List Cond := .code yX5_keep cX5_keep 2 (some .int) :: ((wsX5_keep_r1 ++ wsX5_keep_r2) ++ wsX50 ++ wsX20 ++ wsX30 ++ wsX00)
def wsX5_restore_r1 : List Cond := [Cond.fieldLink RX5 28 "ScannedDigits" "snapshots" "[LScannedDigits$Snapshot;", Cond.fieldLink RX5 164 "ScannedDigits$Snapshot" "isTaken" "Z", Cond.fieldLink RX5 22 "ScannedDigits" "history" "LScannedDigits$History;", Cond.fieldLink RX5 10 "ScannedDigits" "now" "LScannedDigits$State;", Cond.fieldLink RX5 158 "ScannedDigits$Snapshot" "state" "LScannedDigits$State;", Cond.fieldLink RX5 125 "ScannedDigits$State" "time" "I", Cond.methodLink RX5 40 yX5_isWithin, Cond.static yX5_isWithin, Cond.initialized RX5, Cond.code yX5_isWithin cX5_isWithin 3 (some .boolean), Cond.methodLink RX5 44 yX1_record, Cond.instanceMethod yX1_record, Cond.selects RX1 yX1_record yX1_record, Cond.initialized RX1, Cond.code yX1_record cX1_record 2 none, Cond.fieldLink RX1 11 "ScannedDigits$History" "rows" "[LScannedDigits$State;", Cond.fieldLink RX1 18 "ScannedDigits$History" "next" "I", Cond.fieldLink RX1 26 "ScannedDigits$History" "size" "I", Cond.methodLink RX1 29 Lib.Math.min.name, Cond.static Lib.Math.min.name, Cond.initialized "java/lang/Math", Cond.code Lib.Math.min.name Lib.Math.min.code 2 (some .int), Cond.methodLink RX1 22 yX3_copyFrom, Cond.instanceMethod yX3_copyFrom]
def wsX5_restore_r2 : List Cond := [Cond.selects RX3 yX3_copyFrom yX3_copyFrom, Cond.initialized RX3, Cond.code yX3_copyFrom cX3_copyFrom 3 none, Cond.fieldLink RX3 11 "ScannedDigits$State" "digits" "[LScannedDigits$Digit;", Cond.fieldLink RX3 17 "ScannedDigits$State" "digitCount" "I", Cond.fieldLink RX3 21 "ScannedDigits$State" "on" "[I", Cond.methodLink RX3 44 arraycopyName, Cond.native arraycopyName, Cond.static arraycopyName, Cond.initialized "java/lang/System", Cond.fieldLink RX3 25 "ScannedDigits$State" "off" "[I", Cond.fieldLink RX3 36 "ScannedDigits$State" "settings" "[I", Cond.fieldLink RX3 50 "ScannedDigits$State" "time" "I", Cond.fieldLink RX3 53 "ScannedDigits$State" "frame" "I", Cond.fieldLink RX3 56 "ScannedDigits$State" "frameTicks" "I", Cond.fieldLink RX3 59 "ScannedDigits$State" "testFrames" "I", Cond.fieldLink RX3 62 "ScannedDigits$State" "drivenTicks" "I", Cond.fieldLink RX3 65 "ScannedDigits$State" "current" "F", Cond.fieldLink RX3 69 "ScannedDigits$State" "peak" "F", Cond.fieldLink RX3 72 "ScannedDigits$State" "charge" "F", Cond.methodLink RX3 40 yX0_copyFrom, Cond.instanceMethod yX0_copyFrom, Cond.selects RX0 yX0_copyFrom yX0_copyFrom, Cond.initialized RX0]
def wsX5_restore_r3 : List Cond := [Cond.code yX0_copyFrom cX0_copyFrom 2 none, Cond.fieldLink RX0 21 "ScannedDigits$Digit" "width" "I", Cond.fieldLink RX0 25 "ScannedDigits$Digit" "guard" "I", Cond.fieldLink RX0 28 "ScannedDigits$Digit" "brightness" "I", Cond.fieldLink RX0 31 "ScannedDigits$Digit" "pattern" "I", Cond.fieldLink RX0 34 "ScannedDigits$Digit" "group" "I", Cond.fieldLink RX0 37 "ScannedDigits$Digit" "drivenTicks" "I", Cond.fieldLink RX0 43 "ScannedDigits$Digit" "broken" "I", Cond.fieldLink RX0 9 "ScannedDigits$Digit" "glow" "[I", Cond.methodLink RX0 46 arraycopyName, Cond.fieldLink RX0 15 "ScannedDigits$Digit" "use" "[I", Cond.methodLink RX5 161 yX3_copyFrom]
def wsX5_restore : List Cond := .code yX5_restore cX5_restore 2 (some .int) :: ((wsX5_restore_r1 ++ (wsX5_restore_r2 ++ wsX5_restore_r3)) ++ wsX50 ++ wsX20 ++ wsX30 ++ wsX10 ++ wsX00)
def wsX5_characterOf : List Cond := .code yX5_characterOf cX5_characterOf 2 (some .int) :: ([.fieldLink RX5 227 "ScannedDigits" "PATTERNS" "[I", .fieldLink RX5 230 "ScannedDigits" "CHARACTERS" "[C"])
def wsX5_digit_r1 : List Cond := [Cond.fieldLink RX5 10 "ScannedDigits" "now" "LScannedDigits$State;", Cond.fieldLink RX5 79 "ScannedDigits$Digit" "pattern" "I", Cond.fieldLink RX5 168 "ScannedDigits$Digit" "width" "I", Cond.fieldLink RX5 68 "ScannedDigits$Digit" "guard" "I", Cond.fieldLink RX5 76 "ScannedDigits$Digit" "brightness" "I", Cond.fieldLink RX5 82 "ScannedDigits$Digit" "group" "I", Cond.fieldLink RX5 102 "ScannedDigits$State" "settings" "[I", Cond.fieldLink RX5 105 "ScannedDigits$Digit" "broken" "I", Cond.fieldLink RX5 183 "ScannedDigits$Digit" "drivenTicks" "I", Cond.methodLink RX5 56 yX3_find, Cond.instanceMethod yX3_find, Cond.selects RX3 yX3_find yX3_find, Cond.initialized RX3, Cond.code yX3_find cX3_find 2 (some (.object "ScannedDigits$Digit")), Cond.fieldLink RX3 17 "ScannedDigits$State" "digitCount" "I", Cond.fieldLink RX3 11 "ScannedDigits$State" "digits" "[LScannedDigits$Digit;", Cond.static yX5_isWithin, Cond.initialized RX5, Cond.code yX5_isWithin cX5_isWithin 3 (some .boolean), Cond.methodLink RX5 73 yX0_litPart, Cond.instanceMethod yX0_litPart, Cond.selects RX0 yX0_litPart yX0_litPart, Cond.initialized RX0, Cond.code yX0_litPart cX0_litPart 1 (some .int)]
def wsX5_digit_r2 : List Cond := [Cond.fieldLink RX0 28 "ScannedDigits$Digit" "brightness" "I", Cond.methodLink RX0 52 yX0_litPartAt, Cond.instanceMethod yX0_litPartAt, Cond.selects RX0 yX0_litPartAt yX0_litPartAt, Cond.code yX0_litPartAt cX0_litPartAt 2 (some .int), Cond.fieldLink RX0 21 "ScannedDigits$Digit" "width" "I", Cond.fieldLink RX0 25 "ScannedDigits$Digit" "guard" "I", Cond.methodLink RX5 171 yX3_slotStart, Cond.instanceMethod yX3_slotStart, Cond.selects RX3 yX3_slotStart yX3_slotStart, Cond.code yX3_slotStart cX3_slotStart 4 (some .int), Cond.fieldLink RX3 85 "ScannedDigits$Digit" "width" "I", Cond.methodLink RX5 174 yX0_seen, Cond.instanceMethod yX0_seen, Cond.selects RX0 yX0_seen yX0_seen, Cond.code yX0_seen cX0_seen 4 (some .int), Cond.fieldLink RX0 9 "ScannedDigits$Digit" "glow" "[I", Cond.methodLink RX5 177 yX0_glowSum, Cond.instanceMethod yX0_glowSum, Cond.selects RX0 yX0_glowSum yX0_glowSum, Cond.code yX0_glowSum cX0_glowSum 3 (some .int), Cond.methodLink RX5 180 yX5_characterOf, Cond.static yX5_characterOf, Cond.code yX5_characterOf cX5_characterOf 2 (some .int)]
def wsX5_digit_r3 : List Cond := [Cond.fieldLink RX5 227 "ScannedDigits" "PATTERNS" "[I", Cond.fieldLink RX5 230 "ScannedDigits" "CHARACTERS" "[C"]
def wsX5_digit : List Cond := .code yX5_digit cX5_digit 4 (some .int) :: ((wsX5_digit_r1 ++ (wsX5_digit_r2 ++ wsX5_digit_r3)) ++ wsX50 ++ wsX00 ++ wsX30)
def wsX5_segment : List Cond := .code yX5_segment cX5_segment 5 (some .int) :: ([.fieldLink RX5 10 "ScannedDigits" "now" "LScannedDigits$State;", .fieldLink RX5 186 "ScannedDigits$Digit" "glow" "[I", .fieldLink RX5 189 "ScannedDigits$Digit" "use" "[I", .fieldLink RX5 105 "ScannedDigits$Digit" "broken" "I", .fieldLink RX5 102 "ScannedDigits$State" "settings" "[I", .methodLink RX5 56 yX3_find, .instanceMethod yX3_find, .selects RX3 yX3_find yX3_find, .initialized RX3, .code yX3_find cX3_find 2 (some (.object "ScannedDigits$Digit")), .fieldLink RX3 17 "ScannedDigits$State" "digitCount" "I", .fieldLink RX3 11 "ScannedDigits$State" "digits" "[LScannedDigits$Digit;", .static yX5_isWithin, .initialized RX5, .code yX5_isWithin cX5_isWithin 3 (some .boolean), .methodLink RX5 40 yX5_isWithin, .methodLink RX5 174 yX0_seen, .instanceMethod yX0_seen, .selects RX0 yX0_seen yX0_seen, .initialized RX0, .code yX0_seen cX0_seen 4 (some .int), .fieldLink RX0 9 "ScannedDigits$Digit" "glow" "[I"] ++ wsX50 ++ wsX00 ++ wsX30)
def wsX5_litIn_r1 : List Cond := [Cond.fieldLink RX5 10 "ScannedDigits" "now" "LScannedDigits$State;", Cond.fieldLink RX5 16 "ScannedDigits" "future" "LScannedDigits$State;", Cond.methodLink RX5 56 yX3_find, Cond.instanceMethod yX3_find, Cond.selects RX3 yX3_find yX3_find, Cond.initialized RX3, Cond.code yX3_find cX3_find 2 (some (.object "ScannedDigits$Digit")), Cond.fieldLink RX3 17 "ScannedDigits$State" "digitCount" "I", Cond.fieldLink RX3 11 "ScannedDigits$State" "digits" "[LScannedDigits$Digit;", Cond.static yX5_isWithin, Cond.initialized RX5, Cond.code yX5_isWithin cX5_isWithin 3 (some .boolean), Cond.methodLink RX5 40 yX5_isWithin, Cond.methodLink RX5 161 yX3_copyFrom, Cond.instanceMethod yX3_copyFrom, Cond.selects RX3 yX3_copyFrom yX3_copyFrom, Cond.code yX3_copyFrom cX3_copyFrom 3 none, Cond.fieldLink RX3 21 "ScannedDigits$State" "on" "[I", Cond.methodLink RX3 44 arraycopyName, Cond.native arraycopyName, Cond.static arraycopyName, Cond.initialized "java/lang/System", Cond.fieldLink RX3 25 "ScannedDigits$State" "off" "[I", Cond.fieldLink RX3 36 "ScannedDigits$State" "settings" "[I"]
def wsX5_litIn_r2 : List Cond := [Cond.fieldLink RX3 50 "ScannedDigits$State" "time" "I", Cond.fieldLink RX3 53 "ScannedDigits$State" "frame" "I", Cond.fieldLink RX3 56 "ScannedDigits$State" "frameTicks" "I", Cond.fieldLink RX3 59 "ScannedDigits$State" "testFrames" "I", Cond.fieldLink RX3 62 "ScannedDigits$State" "drivenTicks" "I", Cond.fieldLink RX3 65 "ScannedDigits$State" "current" "F", Cond.fieldLink RX3 69 "ScannedDigits$State" "peak" "F", Cond.fieldLink RX3 72 "ScannedDigits$State" "charge" "F", Cond.methodLink RX3 40 yX0_copyFrom, Cond.instanceMethod yX0_copyFrom, Cond.selects RX0 yX0_copyFrom yX0_copyFrom, Cond.initialized RX0, Cond.code yX0_copyFrom cX0_copyFrom 2 none, Cond.fieldLink RX0 21 "ScannedDigits$Digit" "width" "I", Cond.fieldLink RX0 25 "ScannedDigits$Digit" "guard" "I", Cond.fieldLink RX0 28 "ScannedDigits$Digit" "brightness" "I", Cond.fieldLink RX0 31 "ScannedDigits$Digit" "pattern" "I", Cond.fieldLink RX0 34 "ScannedDigits$Digit" "group" "I", Cond.fieldLink RX0 37 "ScannedDigits$Digit" "drivenTicks" "I", Cond.fieldLink RX0 43 "ScannedDigits$Digit" "broken" "I", Cond.fieldLink RX0 9 "ScannedDigits$Digit" "glow" "[I", Cond.methodLink RX0 46 arraycopyName, Cond.fieldLink RX0 15 "ScannedDigits$Digit" "use" "[I", Cond.methodLink RX5 119 yX3_runTicks]
def wsX5_litIn_r3 : List Cond := [Cond.instanceMethod yX3_runTicks, Cond.selects RX3 yX3_runTicks yX3_runTicks, Cond.code yX3_runTicks cX3_runTicks 4 (some .int), Cond.methodLink RX3 123 yX3_runTick, Cond.instanceMethod yX3_runTick, Cond.selects RX3 yX3_runTick yX3_runTick, Cond.code yX3_runTick cX3_runTick 4 (some .int), Cond.fieldLink RX3 129 "ScannedDigits$Digit" "drivenTicks" "I", Cond.methodLink RX3 116 yX3_slotNow, Cond.instanceMethod yX3_slotNow, Cond.selects RX3 yX3_slotNow yX3_slotNow, Cond.code yX3_slotNow cX3_slotNow 3 (some .int), Cond.fieldLink RX3 85 "ScannedDigits$Digit" "width" "I", Cond.methodLink RX3 126 yX3_litNext, Cond.instanceMethod yX3_litNext, Cond.selects RX3 yX3_litNext yX3_litNext, Cond.code yX3_litNext cX3_litNext 3 (some .int), Cond.fieldLink RX3 88 "ScannedDigits$Digit" "pattern" "I", Cond.fieldLink RX3 98 "ScannedDigits$Digit" "broken" "I", Cond.methodLink RX3 120 yX3_isDriven, Cond.instanceMethod yX3_isDriven, Cond.selects RX3 yX3_isDriven yX3_isDriven, Cond.code yX3_isDriven cX3_isDriven 5 (some .boolean), Cond.fieldLink RX3 106 "ScannedDigits$Digit" "brightness" "I"]
def wsX5_litIn_r4 : List Cond := [Cond.fieldLink RX3 95 "ScannedDigits$Digit" "group" "I", Cond.methodLink RX3 109 yX0_litPartAt, Cond.instanceMethod yX0_litPartAt, Cond.selects RX0 yX0_litPartAt yX0_litPartAt, Cond.code yX0_litPartAt cX0_litPartAt 2 (some .int), Cond.methodLink RX3 91 yX3_slotStart, Cond.instanceMethod yX3_slotStart, Cond.selects RX3 yX3_slotStart yX3_slotStart, Cond.code yX3_slotStart cX3_slotStart 4 (some .int), Cond.methodLink RX3 112 yX3_isGroupOn, Cond.instanceMethod yX3_isGroupOn, Cond.selects RX3 yX3_isGroupOn yX3_isGroupOn, Cond.code yX3_isGroupOn cX3_isGroupOn 3 (some .boolean), Cond.methodLink RX3 130 yX0_runTick, Cond.instanceMethod yX0_runTick, Cond.selects RX0 yX0_runTick yX0_runTick, Cond.code yX0_runTick cX0_runTick 5 none, Cond.static yX5_glowUnlit, Cond.code yX5_glowUnlit cX5_glowUnlit 3 (some .int), Cond.methodLink RX5 234 Lib.Math.max.name, Cond.static Lib.Math.max.name, Cond.initialized "java/lang/Math", Cond.code Lib.Math.max.name Lib.Math.max.code 2 (some .int), Cond.static yX5_glowLit]
def wsX5_litIn_r5 : List Cond := [Cond.code yX5_glowLit cX5_glowLit 2 (some .int), Cond.methodLink RX5 240 Lib.Math.min.name, Cond.static Lib.Math.min.name, Cond.code Lib.Math.min.name Lib.Math.min.code 2 (some .int), Cond.methodLink RX3 101 yJ6_bitCount_0f7a4, Cond.static yJ6_bitCount_0f7a4, Cond.initialized RJ6, Cond.code yJ6_bitCount_0f7a4 cJ6_bitCount_0f7a4 1 (some .int), Cond.constant RJ6 265 (1431655765), Cond.constant RJ6 266 (858993459), Cond.constant RJ6 267 (252645135), Cond.methodLink RX3 133 yX3_runCurrent, Cond.instanceMethod yX3_runCurrent, Cond.selects RX3 yX3_runCurrent yX3_runCurrent, Cond.code yX3_runCurrent cX3_runCurrent 2 none, Cond.constantFloat RX3 140 (1075838976), Cond.constantFloat RX3 141 (1040187392), Cond.constantFloat RX3 142 (981668463), Cond.methodLink RX3 137 yX3_frameLength, Cond.instanceMethod yX3_frameLength, Cond.selects RX3 yX3_frameLength yX3_frameLength, Cond.code yX3_frameLength cX3_frameLength 1 (some .int), Cond.methodLink RX3 82 yX3_beginFrame, Cond.instanceMethod yX3_beginFrame]
def wsX5_litIn_r6 : List Cond := [Cond.selects RX3 yX3_beginFrame yX3_beginFrame, Cond.code yX3_beginFrame cX3_beginFrame 1 none, Cond.methodLink RX5 192 yX3_slotNow, Cond.methodLink RX5 195 yX3_litNext]
def wsX5_litIn : List Cond := .code yX5_litIn cX5_litIn 3 (some .int) :: ((wsX5_litIn_r1 ++ (wsX5_litIn_r2 ++ (wsX5_litIn_r3 ++ (wsX5_litIn_r4 ++ (wsX5_litIn_r5 ++ wsX5_litIn_r6))))) ++ wsX50 ++ wsX30 ++ wsX00)
def wsX5_glowOfFrames : List Cond := .code yX5_glowOfFrames cX5_glowOfFrames 7 (some .int) :: ([.methodLink RX5 243 yX5_glowLit, .static yX5_glowLit, .initialized RX5, .code yX5_glowLit cX5_glowLit 2 (some .int), .methodLink RX5 234 Lib.Math.max.name, .static Lib.Math.max.name, .initialized "java/lang/Math", .code Lib.Math.max.name Lib.Math.max.code 2 (some .int), .methodLink RX5 240 Lib.Math.min.name, .static Lib.Math.min.name, .code Lib.Math.min.name Lib.Math.min.code 2 (some .int), .methodLink RX5 246 yX5_glowUnlit, .static yX5_glowUnlit, .code yX5_glowUnlit cX5_glowUnlit 3 (some .int)])
def wsX5_steadyGlow_r1 : List Cond := [Cond.fieldLink RX5 10 "ScannedDigits" "now" "LScannedDigits$State;", Cond.fieldLink RX5 102 "ScannedDigits$State" "settings" "[I", Cond.methodLink RX5 56 yX3_find, Cond.instanceMethod yX3_find, Cond.selects RX3 yX3_find yX3_find, Cond.initialized RX3, Cond.code yX3_find cX3_find 2 (some (.object "ScannedDigits$Digit")), Cond.fieldLink RX3 17 "ScannedDigits$State" "digitCount" "I", Cond.fieldLink RX3 11 "ScannedDigits$State" "digits" "[LScannedDigits$Digit;", Cond.static yX5_isWithin, Cond.initialized RX5, Cond.code yX5_isWithin cX5_isWithin 3 (some .boolean), Cond.methodLink RX5 73 yX0_litPart, Cond.instanceMethod yX0_litPart, Cond.selects RX0 yX0_litPart yX0_litPart, Cond.initialized RX0, Cond.code yX0_litPart cX0_litPart 1 (some .int), Cond.fieldLink RX0 28 "ScannedDigits$Digit" "brightness" "I", Cond.methodLink RX0 52 yX0_litPartAt, Cond.instanceMethod yX0_litPartAt, Cond.selects RX0 yX0_litPartAt yX0_litPartAt, Cond.code yX0_litPartAt cX0_litPartAt 2 (some .int), Cond.fieldLink RX0 21 "ScannedDigits$Digit" "width" "I", Cond.fieldLink RX0 25 "ScannedDigits$Digit" "guard" "I"]
def wsX5_steadyGlow_r2 : List Cond := [Cond.methodLink RX5 64 yX3_frameLength, Cond.instanceMethod yX3_frameLength, Cond.selects RX3 yX3_frameLength yX3_frameLength, Cond.code yX3_frameLength cX3_frameLength 1 (some .int), Cond.methodLink RX3 91 yX3_slotStart, Cond.instanceMethod yX3_slotStart, Cond.selects RX3 yX3_slotStart yX3_slotStart, Cond.code yX3_slotStart cX3_slotStart 4 (some .int), Cond.fieldLink RX3 85 "ScannedDigits$Digit" "width" "I", Cond.methodLink RX5 198 yX5_glowOfFrames, Cond.static yX5_glowOfFrames, Cond.code yX5_glowOfFrames cX5_glowOfFrames 7 (some .int), Cond.methodLink RX5 243 yX5_glowLit, Cond.static yX5_glowLit, Cond.code yX5_glowLit cX5_glowLit 2 (some .int), Cond.methodLink RX5 234 Lib.Math.max.name, Cond.static Lib.Math.max.name, Cond.initialized "java/lang/Math", Cond.code Lib.Math.max.name Lib.Math.max.code 2 (some .int), Cond.methodLink RX5 240 Lib.Math.min.name, Cond.static Lib.Math.min.name, Cond.code Lib.Math.min.name Lib.Math.min.code 2 (some .int), Cond.methodLink RX5 246 yX5_glowUnlit, Cond.static yX5_glowUnlit]
def wsX5_steadyGlow_r3 : List Cond := [Cond.code yX5_glowUnlit cX5_glowUnlit 3 (some .int)]
def wsX5_steadyGlow : List Cond := .code yX5_steadyGlow cX5_steadyGlow 4 (some .int) :: ((wsX5_steadyGlow_r1 ++ (wsX5_steadyGlow_r2 ++ wsX5_steadyGlow_r3)) ++ wsX50 ++ wsX30 ++ wsX00)
def wsX5_current : List Cond := .code yX5_current cX5_current 2 (some .float) :: ([.fieldLink RX5 10 "ScannedDigits" "now" "LScannedDigits$State;", .fieldLink RX5 202 "ScannedDigits$State" "current" "F", .fieldLink RX5 206 "ScannedDigits$State" "peak" "F", .fieldLink RX5 209 "ScannedDigits$State" "charge" "F"] ++ wsX50 ++ wsX30)
def wsX5_thousandths : List Cond := .code yX5_thousandths cX5_thousandths 2 (some .int) :: ([.constantFloat RX5 215 (1148846080), .methodLink RX5 40 yX5_isWithin, .static yX5_isWithin, .initialized RX5, .code yX5_isWithin cX5_isWithin 3 (some .boolean), .methodLink RX5 212 yX5_current, .instanceMethod yX5_current, .selects RX5 yX5_current yX5_current, .code yX5_current cX5_current 2 (some .float), .fieldLink RX5 10 "ScannedDigits" "now" "LScannedDigits$State;", .fieldLink RX5 202 "ScannedDigits$State" "current" "F", .fieldLink RX5 206 "ScannedDigits$State" "peak" "F", .fieldLink RX5 209 "ScannedDigits$State" "charge" "F"] ++ wsX50 ++ wsX30)
def wsX5_duty : List Cond := .code yX5_duty cX5_duty 3 (some .float) :: ([.fieldLink RX5 10 "ScannedDigits" "now" "LScannedDigits$State;", .fieldLink RX5 125 "ScannedDigits$State" "time" "I", .fieldLink RX5 183 "ScannedDigits$Digit" "drivenTicks" "I", .methodLink RX5 56 yX3_find, .instanceMethod yX3_find, .selects RX3 yX3_find yX3_find, .initialized RX3, .code yX3_find cX3_find 2 (some (.object "ScannedDigits$Digit")), .fieldLink RX3 17 "ScannedDigits$State" "digitCount" "I", .fieldLink RX3 11 "ScannedDigits$State" "digits" "[LScannedDigits$Digit;", .static yX5_isWithin, .initialized RX5, .code yX5_isWithin cX5_isWithin 3 (some .boolean)] ++ wsX50 ++ wsX30 ++ wsX00)
def wsX5_count_r1 : List Cond := [Cond.fieldLink RX5 10 "ScannedDigits" "now" "LScannedDigits$State;", Cond.fieldLink RX5 125 "ScannedDigits$State" "time" "I", Cond.fieldLink RX5 48 "ScannedDigits$State" "digitCount" "I", Cond.fieldLink RX5 216 "ScannedDigits$State" "frame" "I", Cond.fieldLink RX5 122 "ScannedDigits$State" "frameTicks" "I", Cond.fieldLink RX5 116 "ScannedDigits$State" "testFrames" "I", Cond.fieldLink RX5 219 "ScannedDigits$State" "drivenTicks" "I", Cond.fieldLink RX5 102 "ScannedDigits$State" "settings" "[I", Cond.fieldLink RX5 22 "ScannedDigits" "history" "LScannedDigits$History;", Cond.fieldLink RX5 152 "ScannedDigits$History" "size" "I", Cond.fieldLink RX5 35 "ScannedDigits" "text" "LScannedDigits$Text;", Cond.fieldLink RX5 136 "ScannedDigits$Text" "length" "I", Cond.methodLink RX5 64 yX3_frameLength, Cond.instanceMethod yX3_frameLength, Cond.selects RX3 yX3_frameLength yX3_frameLength, Cond.initialized RX3, Cond.code yX3_frameLength cX3_frameLength 1 (some .int), Cond.fieldLink RX3 17 "ScannedDigits$State" "digitCount" "I", Cond.methodLink RX3 91 yX3_slotStart, Cond.instanceMethod yX3_slotStart, Cond.selects RX3 yX3_slotStart yX3_slotStart, Cond.code yX3_slotStart cX3_slotStart 4 (some .int), Cond.fieldLink RX3 11 "ScannedDigits$State" "digits" "[LScannedDigits$Digit;", Cond.fieldLink RX3 85 "ScannedDigits$Digit" "width" "I"]
def wsX5_count_r2 : List Cond := [Cond.methodLink RX5 192 yX3_slotNow, Cond.instanceMethod yX3_slotNow, Cond.selects RX3 yX3_slotNow yX3_slotNow, Cond.code yX3_slotNow cX3_slotNow 3 (some .int), Cond.fieldLink RX3 56 "ScannedDigits$State" "frameTicks" "I", Cond.methodLink RX5 220 yX3_brokenSegments, Cond.instanceMethod yX3_brokenSegments, Cond.selects RX3 yX3_brokenSegments yX3_brokenSegments, Cond.code yX3_brokenSegments cX3_brokenSegments 3 (some .int), Cond.fieldLink RX3 98 "ScannedDigits$Digit" "broken" "I", Cond.methodLink RX3 101 yJ6_bitCount_0f7a4, Cond.static yJ6_bitCount_0f7a4, Cond.initialized RJ6, Cond.code yJ6_bitCount_0f7a4 cJ6_bitCount_0f7a4 1 (some .int), Cond.constant RJ6 265 (1431655765), Cond.constant RJ6 266 (858993459), Cond.constant RJ6 267 (252645135)]
def wsX5_count : List Cond := .code yX5_count cX5_count 2 (some .int) :: ((wsX5_count_r1 ++ wsX5_count_r2) ++ wsX50 ++ wsX30 ++ wsX10 ++ wsX40 ++ wsX00)
def wsX5_group : List Cond := .code yX5_group cX5_group 3 (some .int) :: ([.fieldLink RX5 10 "ScannedDigits" "now" "LScannedDigits$State;", .fieldLink RX5 85 "ScannedDigits$State" "on" "[I", .fieldLink RX5 89 "ScannedDigits$State" "off" "[I", .methodLink RX5 40 yX5_isWithin, .static yX5_isWithin, .initialized RX5, .code yX5_isWithin cX5_isWithin 3 (some .boolean), .methodLink RX5 223 yX3_isGroupOn, .instanceMethod yX3_isGroupOn, .selects RX3 yX3_isGroupOn yX3_isGroupOn, .initialized RX3, .code yX3_isGroupOn cX3_isGroupOn 3 (some .boolean), .fieldLink RX3 21 "ScannedDigits$State" "on" "[I", .fieldLink RX3 25 "ScannedDigits$State" "off" "[I", .fieldLink RX3 53 "ScannedDigits$State" "frame" "I", .methodLink RX5 92 yX3_digitsInGroup, .instanceMethod yX3_digitsInGroup, .selects RX3 yX3_digitsInGroup yX3_digitsInGroup, .code yX3_digitsInGroup cX3_digitsInGroup 4 (some .int), .fieldLink RX3 17 "ScannedDigits$State" "digitCount" "I", .fieldLink RX3 11 "ScannedDigits$State" "digits" "[LScannedDigits$Digit;", .fieldLink RX3 95 "ScannedDigits$Digit" "group" "I"] ++ wsX50 ++ wsX30 ++ wsX00)
def wsX6_put : List Cond := .code yX6_put cX6_put 4 none :: ([.fieldLink RX6 7 "ScannedDigitsModel" "row" "[I"] ++ wsX60)
def wsX6_renew : List Cond := .code yX6_renew cX6_renew 3 none :: ([.fieldLink RX6 7 "ScannedDigitsModel" "row" "[I"] ++ wsX60)
def wsX6_begins : List Cond := .code yX6_begins cX6_begins 2 none :: ([.methodLink RX6 66 yX6_put, .instanceMethod yX6_put, .selects RX6 yX6_put yX6_put, .initialized RX6, .code yX6_put cX6_put 4 none, .fieldLink RX6 7 "ScannedDigitsModel" "row" "[I", .methodLink RX6 70 yX6_renew, .instanceMethod yX6_renew, .selects RX6 yX6_renew yX6_renew, .code yX6_renew cX6_renew 3 none] ++ wsX60)
def wsX6_init_r1 : List Cond := [Cond.methodLink RX6 1 objectInit, Cond.instanceMethod objectInit, Cond.code objectInit ⟨#[0xb1]⟩ 1 none, Cond.arrayClass .int, Cond.fieldLink RX6 7 "ScannedDigitsModel" "row" "[I", Cond.arrayClass .float, Cond.fieldLink RX6 13 "ScannedDigitsModel" "flow" "[F", Cond.fieldLink RX6 17 "ScannedDigitsModel" "scratch" "[I", Cond.fieldLink RX6 20 "ScannedDigitsModel" "scratchFlow" "[F", Cond.fieldLink RX6 23 "ScannedDigitsModel" "history" "[I", Cond.fieldLink RX6 26 "ScannedDigitsModel" "historyFlow" "[F", Cond.fieldLink RX6 29 "ScannedDigitsModel" "slots" "[I", Cond.fieldLink RX6 32 "ScannedDigitsModel" "slotFlow" "[F", Cond.arrayClass .boolean, Cond.fieldLink RX6 35 "ScannedDigitsModel" "isKept" "[Z", Cond.arrayClass .char, Cond.fieldLink RX6 39 "ScannedDigitsModel" "text" "[C", Cond.fieldLink RX6 43 "ScannedDigitsModel" "read" "[I", Cond.constant RX6 46 (100000), Cond.methodLink RX6 47 yX6_begins, Cond.instanceMethod yX6_begins, Cond.selects RX6 yX6_begins yX6_begins, Cond.initialized RX6, Cond.code yX6_begins cX6_begins 2 none]
def wsX6_init_r2 : List Cond := [Cond.methodLink RX6 66 yX6_put, Cond.instanceMethod yX6_put, Cond.selects RX6 yX6_put yX6_put, Cond.code yX6_put cX6_put 4 none, Cond.methodLink RX6 70 yX6_renew, Cond.instanceMethod yX6_renew, Cond.selects RX6 yX6_renew yX6_renew, Cond.code yX6_renew cX6_renew 3 none]
def wsX6_init : List Cond := .code yX6_init cX6_init 2 none :: ((wsX6_init_r1 ++ wsX6_init_r2) ++ wsX60)
def wsX6_in : List Cond := .code yX6_in cX6_in 3 (some .boolean) :: ([])
def wsX6_begin : List Cond := .code yX6_begin cX6_begin 2 none :: ([.fieldLink RX6 17 "ScannedDigitsModel" "scratch" "[I", .fieldLink RX6 7 "ScannedDigitsModel" "row" "[I", .fieldLink RX6 20 "ScannedDigitsModel" "scratchFlow" "[F", .fieldLink RX6 13 "ScannedDigitsModel" "flow" "[F"] ++ wsX60)
def wsX6_goBack : List Cond := .code yX6_goBack cX6_goBack 2 none :: ([.fieldLink RX6 7 "ScannedDigitsModel" "row" "[I", .fieldLink RX6 17 "ScannedDigitsModel" "scratch" "[I", .fieldLink RX6 13 "ScannedDigitsModel" "flow" "[F", .fieldLink RX6 20 "ScannedDigitsModel" "scratchFlow" "[F"] ++ wsX60)
def wsX6_done : List Cond := .code yX6_done cX6_done 3 (some .int) :: ([.fieldLink RX6 51 "ScannedDigitsModel" "kept" "I", .fieldLink RX6 23 "ScannedDigitsModel" "history" "[I", .fieldLink RX6 26 "ScannedDigitsModel" "historyFlow" "[F", .fieldLink RX6 17 "ScannedDigitsModel" "scratch" "[I", .fieldLink RX6 20 "ScannedDigitsModel" "scratchFlow" "[F"] ++ wsX60)
def wsX6_undo : List Cond := .code yX6_undo cX6_undo 2 (some .int) :: ([.fieldLink RX6 51 "ScannedDigitsModel" "kept" "I", .fieldLink RX6 7 "ScannedDigitsModel" "row" "[I", .fieldLink RX6 23 "ScannedDigitsModel" "history" "[I", .fieldLink RX6 13 "ScannedDigitsModel" "flow" "[F", .fieldLink RX6 26 "ScannedDigitsModel" "historyFlow" "[F"] ++ wsX60)
def wsX6_keep : List Cond := .code yX6_keep cX6_keep 3 (some .int) :: ([.fieldLink RX6 35 "ScannedDigitsModel" "isKept" "[Z", .fieldLink RX6 29 "ScannedDigitsModel" "slots" "[I", .fieldLink RX6 7 "ScannedDigitsModel" "row" "[I", .fieldLink RX6 32 "ScannedDigitsModel" "slotFlow" "[F", .fieldLink RX6 13 "ScannedDigitsModel" "flow" "[F", .methodLink RX6 55 yX6_in, .static yX6_in, .initialized RX6, .code yX6_in cX6_in 3 (some .boolean)] ++ wsX60)
def wsX6_restore : List Cond := .code yX6_restore cX6_restore 3 (some .int) :: ([.fieldLink RX6 35 "ScannedDigitsModel" "isKept" "[Z", .fieldLink RX6 7 "ScannedDigitsModel" "row" "[I", .fieldLink RX6 29 "ScannedDigitsModel" "slots" "[I", .fieldLink RX6 13 "ScannedDigitsModel" "flow" "[F", .fieldLink RX6 32 "ScannedDigitsModel" "slotFlow" "[F", .methodLink RX6 55 yX6_in, .static yX6_in, .initialized RX6, .code yX6_in cX6_in 3 (some .boolean), .methodLink RX6 59 yX6_begin, .instanceMethod yX6_begin, .selects RX6 yX6_begin yX6_begin, .code yX6_begin cX6_begin 2 none, .fieldLink RX6 17 "ScannedDigitsModel" "scratch" "[I", .fieldLink RX6 20 "ScannedDigitsModel" "scratchFlow" "[F", .methodLink RX6 62 yX6_done, .instanceMethod yX6_done, .selects RX6 yX6_done yX6_done, .code yX6_done cX6_done 3 (some .int), .fieldLink RX6 51 "ScannedDigitsModel" "kept" "I", .fieldLink RX6 23 "ScannedDigitsModel" "history" "[I", .fieldLink RX6 26 "ScannedDigitsModel" "historyFlow" "[F"] ++ wsX60)
def wsX6_of : List Cond := .code yX6_of cX6_of 3 (some .int) :: ([.fieldLink RX6 7 "ScannedDigitsModel" "row" "[I"] ++ wsX60)
def wsX6_noDigit : List Cond := .code yX6_noDigit cX6_noDigit 2 (some .boolean) :: ([.fieldLink RX6 7 "ScannedDigitsModel" "row" "[I", .methodLink RX6 55 yX6_in, .static yX6_in, .initialized RX6, .code yX6_in cX6_in 3 (some .boolean)] ++ wsX60)
def wsX6_litPart : List Cond := .code yX6_litPart cX6_litPart 2 (some .int) :: ([.methodLink RX6 73 yX6_of, .instanceMethod yX6_of, .selects RX6 yX6_of yX6_of, .initialized RX6, .code yX6_of cX6_of 3 (some .int), .fieldLink RX6 7 "ScannedDigitsModel" "row" "[I"] ++ wsX60)
def wsX6_beginOf : List Cond := .code yX6_beginOf cX6_beginOf 4 (some .int) :: ([.methodLink RX6 73 yX6_of, .instanceMethod yX6_of, .selects RX6 yX6_of yX6_of, .initialized RX6, .code yX6_of cX6_of 3 (some .int), .fieldLink RX6 7 "ScannedDigitsModel" "row" "[I"] ++ wsX60)
def wsX6_frameLength : List Cond := .code yX6_frameLength cX6_frameLength 1 (some .int) :: ([.fieldLink RX6 7 "ScannedDigitsModel" "row" "[I", .methodLink RX6 77 yX6_beginOf, .instanceMethod yX6_beginOf, .selects RX6 yX6_beginOf yX6_beginOf, .initialized RX6, .code yX6_beginOf cX6_beginOf 4 (some .int), .methodLink RX6 73 yX6_of, .instanceMethod yX6_of, .selects RX6 yX6_of yX6_of, .code yX6_of cX6_of 3 (some .int)] ++ wsX60)
def wsX6_endFrame : List Cond := .code yX6_endFrame cX6_endFrame 1 none :: ([.fieldLink RX6 7 "ScannedDigitsModel" "row" "[I"] ++ wsX60)
def wsX6_setDigits_r1 : List Cond := [Cond.fieldLink RX6 7 "ScannedDigitsModel" "row" "[I", Cond.methodLink RX6 55 yX6_in, Cond.static yX6_in, Cond.initialized RX6, Cond.code yX6_in cX6_in 3 (some .boolean), Cond.methodLink RX6 59 yX6_begin, Cond.instanceMethod yX6_begin, Cond.selects RX6 yX6_begin yX6_begin, Cond.code yX6_begin cX6_begin 2 none, Cond.fieldLink RX6 17 "ScannedDigitsModel" "scratch" "[I", Cond.fieldLink RX6 20 "ScannedDigitsModel" "scratchFlow" "[F", Cond.fieldLink RX6 13 "ScannedDigitsModel" "flow" "[F", Cond.methodLink RX6 47 yX6_begins, Cond.instanceMethod yX6_begins, Cond.selects RX6 yX6_begins yX6_begins, Cond.code yX6_begins cX6_begins 2 none, Cond.methodLink RX6 66 yX6_put, Cond.instanceMethod yX6_put, Cond.selects RX6 yX6_put yX6_put, Cond.code yX6_put cX6_put 4 none, Cond.methodLink RX6 70 yX6_renew, Cond.instanceMethod yX6_renew, Cond.selects RX6 yX6_renew yX6_renew, Cond.code yX6_renew cX6_renew 3 none]
def wsX6_setDigits_r2 : List Cond := [Cond.methodLink RX6 80 yX6_endFrame, Cond.instanceMethod yX6_endFrame, Cond.selects RX6 yX6_endFrame yX6_endFrame, Cond.code yX6_endFrame cX6_endFrame 1 none, Cond.methodLink RX6 62 yX6_done, Cond.instanceMethod yX6_done, Cond.selects RX6 yX6_done yX6_done, Cond.code yX6_done cX6_done 3 (some .int), Cond.fieldLink RX6 51 "ScannedDigitsModel" "kept" "I", Cond.fieldLink RX6 23 "ScannedDigitsModel" "history" "[I", Cond.fieldLink RX6 26 "ScannedDigitsModel" "historyFlow" "[F"]
def wsX6_setDigits : List Cond := .code yX6_setDigits cX6_setDigits 4 (some .int) :: ((wsX6_setDigits_r1 ++ wsX6_setDigits_r2) ++ wsX60)
def wsX6_setWidth_r1 : List Cond := [Cond.methodLink RX6 83 yX6_noDigit, Cond.instanceMethod yX6_noDigit, Cond.selects RX6 yX6_noDigit yX6_noDigit, Cond.initialized RX6, Cond.code yX6_noDigit cX6_noDigit 2 (some .boolean), Cond.fieldLink RX6 7 "ScannedDigitsModel" "row" "[I", Cond.methodLink RX6 55 yX6_in, Cond.static yX6_in, Cond.code yX6_in cX6_in 3 (some .boolean), Cond.methodLink RX6 59 yX6_begin, Cond.instanceMethod yX6_begin, Cond.selects RX6 yX6_begin yX6_begin, Cond.code yX6_begin cX6_begin 2 none, Cond.fieldLink RX6 17 "ScannedDigitsModel" "scratch" "[I", Cond.fieldLink RX6 20 "ScannedDigitsModel" "scratchFlow" "[F", Cond.fieldLink RX6 13 "ScannedDigitsModel" "flow" "[F", Cond.methodLink RX6 73 yX6_of, Cond.instanceMethod yX6_of, Cond.selects RX6 yX6_of yX6_of, Cond.code yX6_of cX6_of 3 (some .int), Cond.methodLink RX6 66 yX6_put, Cond.instanceMethod yX6_put, Cond.selects RX6 yX6_put yX6_put, Cond.code yX6_put cX6_put 4 none]
def wsX6_setWidth_r2 : List Cond := [Cond.methodLink RX6 80 yX6_endFrame, Cond.instanceMethod yX6_endFrame, Cond.selects RX6 yX6_endFrame yX6_endFrame, Cond.code yX6_endFrame cX6_endFrame 1 none, Cond.methodLink RX6 87 yX6_frameLength, Cond.instanceMethod yX6_frameLength, Cond.selects RX6 yX6_frameLength yX6_frameLength, Cond.code yX6_frameLength cX6_frameLength 1 (some .int), Cond.methodLink RX6 77 yX6_beginOf, Cond.instanceMethod yX6_beginOf, Cond.selects RX6 yX6_beginOf yX6_beginOf, Cond.code yX6_beginOf cX6_beginOf 4 (some .int), Cond.methodLink RX6 62 yX6_done, Cond.instanceMethod yX6_done, Cond.selects RX6 yX6_done yX6_done, Cond.code yX6_done cX6_done 3 (some .int), Cond.fieldLink RX6 51 "ScannedDigitsModel" "kept" "I", Cond.fieldLink RX6 23 "ScannedDigitsModel" "history" "[I", Cond.fieldLink RX6 26 "ScannedDigitsModel" "historyFlow" "[F"]
def wsX6_setWidth : List Cond := .code yX6_setWidth cX6_setWidth 4 (some .int) :: ((wsX6_setWidth_r1 ++ wsX6_setWidth_r2) ++ wsX60)
def wsX6_setGuard_r1 : List Cond := [Cond.methodLink RX6 83 yX6_noDigit, Cond.instanceMethod yX6_noDigit, Cond.selects RX6 yX6_noDigit yX6_noDigit, Cond.initialized RX6, Cond.code yX6_noDigit cX6_noDigit 2 (some .boolean), Cond.fieldLink RX6 7 "ScannedDigitsModel" "row" "[I", Cond.methodLink RX6 55 yX6_in, Cond.static yX6_in, Cond.code yX6_in cX6_in 3 (some .boolean), Cond.methodLink RX6 59 yX6_begin, Cond.instanceMethod yX6_begin, Cond.selects RX6 yX6_begin yX6_begin, Cond.code yX6_begin cX6_begin 2 none, Cond.fieldLink RX6 17 "ScannedDigitsModel" "scratch" "[I", Cond.fieldLink RX6 20 "ScannedDigitsModel" "scratchFlow" "[F", Cond.fieldLink RX6 13 "ScannedDigitsModel" "flow" "[F", Cond.methodLink RX6 66 yX6_put, Cond.instanceMethod yX6_put, Cond.selects RX6 yX6_put yX6_put, Cond.code yX6_put cX6_put 4 none, Cond.methodLink RX6 91 yX6_litPart, Cond.instanceMethod yX6_litPart, Cond.selects RX6 yX6_litPart yX6_litPart, Cond.code yX6_litPart cX6_litPart 2 (some .int)]
def wsX6_setGuard_r2 : List Cond := [Cond.methodLink RX6 73 yX6_of, Cond.instanceMethod yX6_of, Cond.selects RX6 yX6_of yX6_of, Cond.code yX6_of cX6_of 3 (some .int), Cond.methodLink RX6 62 yX6_done, Cond.instanceMethod yX6_done, Cond.selects RX6 yX6_done yX6_done, Cond.code yX6_done cX6_done 3 (some .int), Cond.fieldLink RX6 51 "ScannedDigitsModel" "kept" "I", Cond.fieldLink RX6 23 "ScannedDigitsModel" "history" "[I", Cond.fieldLink RX6 26 "ScannedDigitsModel" "historyFlow" "[F"]
def wsX6_setGuard : List Cond := .code yX6_setGuard cX6_setGuard 3 (some .int) :: ((wsX6_setGuard_r1 ++ wsX6_setGuard_r2) ++ wsX60)
def wsX6_setBrightness_r1 : List Cond := [Cond.methodLink RX6 83 yX6_noDigit, Cond.instanceMethod yX6_noDigit, Cond.selects RX6 yX6_noDigit yX6_noDigit, Cond.initialized RX6, Cond.code yX6_noDigit cX6_noDigit 2 (some .boolean), Cond.fieldLink RX6 7 "ScannedDigitsModel" "row" "[I", Cond.methodLink RX6 55 yX6_in, Cond.static yX6_in, Cond.code yX6_in cX6_in 3 (some .boolean), Cond.methodLink RX6 59 yX6_begin, Cond.instanceMethod yX6_begin, Cond.selects RX6 yX6_begin yX6_begin, Cond.code yX6_begin cX6_begin 2 none, Cond.fieldLink RX6 17 "ScannedDigitsModel" "scratch" "[I", Cond.fieldLink RX6 20 "ScannedDigitsModel" "scratchFlow" "[F", Cond.fieldLink RX6 13 "ScannedDigitsModel" "flow" "[F", Cond.methodLink RX6 66 yX6_put, Cond.instanceMethod yX6_put, Cond.selects RX6 yX6_put yX6_put, Cond.code yX6_put cX6_put 4 none, Cond.methodLink RX6 91 yX6_litPart, Cond.instanceMethod yX6_litPart, Cond.selects RX6 yX6_litPart yX6_litPart, Cond.code yX6_litPart cX6_litPart 2 (some .int)]
def wsX6_setBrightness_r2 : List Cond := [Cond.methodLink RX6 73 yX6_of, Cond.instanceMethod yX6_of, Cond.selects RX6 yX6_of yX6_of, Cond.code yX6_of cX6_of 3 (some .int), Cond.methodLink RX6 62 yX6_done, Cond.instanceMethod yX6_done, Cond.selects RX6 yX6_done yX6_done, Cond.code yX6_done cX6_done 3 (some .int), Cond.fieldLink RX6 51 "ScannedDigitsModel" "kept" "I", Cond.fieldLink RX6 23 "ScannedDigitsModel" "history" "[I", Cond.fieldLink RX6 26 "ScannedDigitsModel" "historyFlow" "[F"]
def wsX6_setBrightness : List Cond := .code yX6_setBrightness cX6_setBrightness 3 (some .int) :: ((wsX6_setBrightness_r1 ++ wsX6_setBrightness_r2) ++ wsX60)
def wsX6_setPattern_r1 : List Cond := [Cond.methodLink RX6 83 yX6_noDigit, Cond.instanceMethod yX6_noDigit, Cond.selects RX6 yX6_noDigit yX6_noDigit, Cond.initialized RX6, Cond.code yX6_noDigit cX6_noDigit 2 (some .boolean), Cond.fieldLink RX6 7 "ScannedDigitsModel" "row" "[I", Cond.methodLink RX6 55 yX6_in, Cond.static yX6_in, Cond.code yX6_in cX6_in 3 (some .boolean), Cond.methodLink RX6 59 yX6_begin, Cond.instanceMethod yX6_begin, Cond.selects RX6 yX6_begin yX6_begin, Cond.code yX6_begin cX6_begin 2 none, Cond.fieldLink RX6 17 "ScannedDigitsModel" "scratch" "[I", Cond.fieldLink RX6 20 "ScannedDigitsModel" "scratchFlow" "[F", Cond.fieldLink RX6 13 "ScannedDigitsModel" "flow" "[F", Cond.methodLink RX6 73 yX6_of, Cond.instanceMethod yX6_of, Cond.selects RX6 yX6_of yX6_of, Cond.code yX6_of cX6_of 3 (some .int), Cond.methodLink RX6 66 yX6_put, Cond.instanceMethod yX6_put, Cond.selects RX6 yX6_put yX6_put, Cond.code yX6_put cX6_put 4 none]
def wsX6_setPattern_r2 : List Cond := [Cond.methodLink RX6 62 yX6_done, Cond.instanceMethod yX6_done, Cond.selects RX6 yX6_done yX6_done, Cond.code yX6_done cX6_done 3 (some .int), Cond.fieldLink RX6 51 "ScannedDigitsModel" "kept" "I", Cond.fieldLink RX6 23 "ScannedDigitsModel" "history" "[I", Cond.fieldLink RX6 26 "ScannedDigitsModel" "historyFlow" "[F"]
def wsX6_setPattern : List Cond := .code yX6_setPattern cX6_setPattern 4 (some .int) :: ((wsX6_setPattern_r1 ++ wsX6_setPattern_r2) ++ wsX60)
def wsX6_setGroup_r1 : List Cond := [Cond.methodLink RX6 83 yX6_noDigit, Cond.instanceMethod yX6_noDigit, Cond.selects RX6 yX6_noDigit yX6_noDigit, Cond.initialized RX6, Cond.code yX6_noDigit cX6_noDigit 2 (some .boolean), Cond.fieldLink RX6 7 "ScannedDigitsModel" "row" "[I", Cond.methodLink RX6 55 yX6_in, Cond.static yX6_in, Cond.code yX6_in cX6_in 3 (some .boolean), Cond.methodLink RX6 59 yX6_begin, Cond.instanceMethod yX6_begin, Cond.selects RX6 yX6_begin yX6_begin, Cond.code yX6_begin cX6_begin 2 none, Cond.fieldLink RX6 17 "ScannedDigitsModel" "scratch" "[I", Cond.fieldLink RX6 20 "ScannedDigitsModel" "scratchFlow" "[F", Cond.fieldLink RX6 13 "ScannedDigitsModel" "flow" "[F", Cond.methodLink RX6 73 yX6_of, Cond.instanceMethod yX6_of, Cond.selects RX6 yX6_of yX6_of, Cond.code yX6_of cX6_of 3 (some .int), Cond.methodLink RX6 66 yX6_put, Cond.instanceMethod yX6_put, Cond.selects RX6 yX6_put yX6_put, Cond.code yX6_put cX6_put 4 none]
def wsX6_setGroup_r2 : List Cond := [Cond.methodLink RX6 62 yX6_done, Cond.instanceMethod yX6_done, Cond.selects RX6 yX6_done yX6_done, Cond.code yX6_done cX6_done 3 (some .int), Cond.fieldLink RX6 51 "ScannedDigitsModel" "kept" "I", Cond.fieldLink RX6 23 "ScannedDigitsModel" "history" "[I", Cond.fieldLink RX6 26 "ScannedDigitsModel" "historyFlow" "[F"]
def wsX6_setGroup : List Cond := .code yX6_setGroup cX6_setGroup 4 (some .int) :: ((wsX6_setGroup_r1 ++ wsX6_setGroup_r2) ++ wsX60)
def wsX6_digitsIn : List Cond := .code yX6_digitsIn cX6_digitsIn 4 (some .int) :: ([.fieldLink RX6 7 "ScannedDigitsModel" "row" "[I", .methodLink RX6 73 yX6_of, .instanceMethod yX6_of, .selects RX6 yX6_of yX6_of, .initialized RX6, .code yX6_of cX6_of 3 (some .int)] ++ wsX60)
def wsX6_setBlink_r1 : List Cond := [Cond.fieldLink RX6 7 "ScannedDigitsModel" "row" "[I", Cond.methodLink RX6 55 yX6_in, Cond.static yX6_in, Cond.initialized RX6, Cond.code yX6_in cX6_in 3 (some .boolean), Cond.methodLink RX6 59 yX6_begin, Cond.instanceMethod yX6_begin, Cond.selects RX6 yX6_begin yX6_begin, Cond.code yX6_begin cX6_begin 2 none, Cond.fieldLink RX6 17 "ScannedDigitsModel" "scratch" "[I", Cond.fieldLink RX6 20 "ScannedDigitsModel" "scratchFlow" "[F", Cond.fieldLink RX6 13 "ScannedDigitsModel" "flow" "[F", Cond.methodLink RX6 94 yX6_digitsIn, Cond.instanceMethod yX6_digitsIn, Cond.selects RX6 yX6_digitsIn yX6_digitsIn, Cond.code yX6_digitsIn cX6_digitsIn 4 (some .int), Cond.methodLink RX6 73 yX6_of, Cond.instanceMethod yX6_of, Cond.selects RX6 yX6_of yX6_of, Cond.code yX6_of cX6_of 3 (some .int), Cond.methodLink RX6 62 yX6_done, Cond.instanceMethod yX6_done, Cond.selects RX6 yX6_done yX6_done, Cond.code yX6_done cX6_done 3 (some .int)]
def wsX6_setBlink_r2 : List Cond := [Cond.fieldLink RX6 51 "ScannedDigitsModel" "kept" "I", Cond.fieldLink RX6 23 "ScannedDigitsModel" "history" "[I", Cond.fieldLink RX6 26 "ScannedDigitsModel" "historyFlow" "[F"]
def wsX6_setBlink : List Cond := .code yX6_setBlink cX6_setBlink 4 (some .int) :: ((wsX6_setBlink_r1 ++ wsX6_setBlink_r2) ++ wsX60)
def wsX6_set : List Cond := .code yX6_set cX6_set 4 (some .int) :: ([.constant RX6 97 (1000000), .fieldLink RX6 7 "ScannedDigitsModel" "row" "[I", .methodLink RX6 55 yX6_in, .static yX6_in, .initialized RX6, .code yX6_in cX6_in 3 (some .boolean), .methodLink RX6 59 yX6_begin, .instanceMethod yX6_begin, .selects RX6 yX6_begin yX6_begin, .code yX6_begin cX6_begin 2 none, .fieldLink RX6 17 "ScannedDigitsModel" "scratch" "[I", .fieldLink RX6 20 "ScannedDigitsModel" "scratchFlow" "[F", .fieldLink RX6 13 "ScannedDigitsModel" "flow" "[F", .methodLink RX6 62 yX6_done, .instanceMethod yX6_done, .selects RX6 yX6_done yX6_done, .code yX6_done cX6_done 3 (some .int), .fieldLink RX6 51 "ScannedDigitsModel" "kept" "I", .fieldLink RX6 23 "ScannedDigitsModel" "history" "[I", .fieldLink RX6 26 "ScannedDigitsModel" "historyFlow" "[F"] ++ wsX60)
def wsX6_brokenOf : List Cond := .code yX6_brokenOf cX6_brokenOf 4 (some .int) :: ([.fieldLink RX6 7 "ScannedDigitsModel" "row" "[I"] ++ wsX60)
def wsX6_replace_r1 : List Cond := [Cond.methodLink RX6 83 yX6_noDigit, Cond.instanceMethod yX6_noDigit, Cond.selects RX6 yX6_noDigit yX6_noDigit, Cond.initialized RX6, Cond.code yX6_noDigit cX6_noDigit 2 (some .boolean), Cond.fieldLink RX6 7 "ScannedDigitsModel" "row" "[I", Cond.methodLink RX6 55 yX6_in, Cond.static yX6_in, Cond.code yX6_in cX6_in 3 (some .boolean), Cond.methodLink RX6 59 yX6_begin, Cond.instanceMethod yX6_begin, Cond.selects RX6 yX6_begin yX6_begin, Cond.code yX6_begin cX6_begin 2 none, Cond.fieldLink RX6 17 "ScannedDigitsModel" "scratch" "[I", Cond.fieldLink RX6 20 "ScannedDigitsModel" "scratchFlow" "[F", Cond.fieldLink RX6 13 "ScannedDigitsModel" "flow" "[F", Cond.methodLink RX6 98 yX6_brokenOf, Cond.instanceMethod yX6_brokenOf, Cond.selects RX6 yX6_brokenOf yX6_brokenOf, Cond.code yX6_brokenOf cX6_brokenOf 4 (some .int), Cond.methodLink RX6 70 yX6_renew, Cond.instanceMethod yX6_renew, Cond.selects RX6 yX6_renew yX6_renew, Cond.code yX6_renew cX6_renew 3 none]
def wsX6_replace_r2 : List Cond := [Cond.methodLink RX6 62 yX6_done, Cond.instanceMethod yX6_done, Cond.selects RX6 yX6_done yX6_done, Cond.code yX6_done cX6_done 3 (some .int), Cond.fieldLink RX6 51 "ScannedDigitsModel" "kept" "I", Cond.fieldLink RX6 23 "ScannedDigitsModel" "history" "[I", Cond.fieldLink RX6 26 "ScannedDigitsModel" "historyFlow" "[F"]
def wsX6_replace : List Cond := .code yX6_replace cX6_replace 3 (some .int) :: ((wsX6_replace_r1 ++ wsX6_replace_r2) ++ wsX60)
def wsX6_test : List Cond := .code yX6_test cX6_test 3 (some .int) :: ([.fieldLink RX6 7 "ScannedDigitsModel" "row" "[I", .methodLink RX6 55 yX6_in, .static yX6_in, .initialized RX6, .code yX6_in cX6_in 3 (some .boolean), .methodLink RX6 59 yX6_begin, .instanceMethod yX6_begin, .selects RX6 yX6_begin yX6_begin, .code yX6_begin cX6_begin 2 none, .fieldLink RX6 17 "ScannedDigitsModel" "scratch" "[I", .fieldLink RX6 20 "ScannedDigitsModel" "scratchFlow" "[F", .fieldLink RX6 13 "ScannedDigitsModel" "flow" "[F", .methodLink RX6 62 yX6_done, .instanceMethod yX6_done, .selects RX6 yX6_done yX6_done, .code yX6_done cX6_done 3 (some .int), .fieldLink RX6 51 "ScannedDigitsModel" "kept" "I", .fieldLink RX6 23 "ScannedDigitsModel" "history" "[I", .fieldLink RX6 26 "ScannedDigitsModel" "historyFlow" "[F"] ++ wsX60)
def wsX6_isOn : List Cond := .code yX6_isOn cX6_isOn 3 (some .boolean) :: ([.fieldLink RX6 7 "ScannedDigitsModel" "row" "[I"] ++ wsX60)
def wsX6_slotNow : List Cond := .code yX6_slotNow cX6_slotNow 2 (some .int) :: ([.fieldLink RX6 7 "ScannedDigitsModel" "row" "[I", .methodLink RX6 77 yX6_beginOf, .instanceMethod yX6_beginOf, .selects RX6 yX6_beginOf yX6_beginOf, .initialized RX6, .code yX6_beginOf cX6_beginOf 4 (some .int), .methodLink RX6 73 yX6_of, .instanceMethod yX6_of, .selects RX6 yX6_of yX6_of, .code yX6_of cX6_of 3 (some .int)] ++ wsX60)
def wsX6_isDriven : List Cond := .code yX6_isDriven cX6_isDriven 3 (some .boolean) :: ([.fieldLink RX6 7 "ScannedDigitsModel" "row" "[I", .methodLink RX6 77 yX6_beginOf, .instanceMethod yX6_beginOf, .selects RX6 yX6_beginOf yX6_beginOf, .initialized RX6, .code yX6_beginOf cX6_beginOf 4 (some .int), .methodLink RX6 73 yX6_of, .instanceMethod yX6_of, .selects RX6 yX6_of yX6_of, .code yX6_of cX6_of 3 (some .int), .methodLink RX6 91 yX6_litPart, .instanceMethod yX6_litPart, .selects RX6 yX6_litPart yX6_litPart, .code yX6_litPart cX6_litPart 2 (some .int), .methodLink RX6 101 yX6_isOn, .instanceMethod yX6_isOn, .selects RX6 yX6_isOn yX6_isOn, .code yX6_isOn cX6_isOn 3 (some .boolean)] ++ wsX60)
def wsX6_litNow_r1 : List Cond := [Cond.fieldLink RX6 7 "ScannedDigitsModel" "row" "[I", Cond.methodLink RX6 104 yX6_slotNow, Cond.instanceMethod yX6_slotNow, Cond.selects RX6 yX6_slotNow yX6_slotNow, Cond.initialized RX6, Cond.code yX6_slotNow cX6_slotNow 2 (some .int), Cond.methodLink RX6 77 yX6_beginOf, Cond.instanceMethod yX6_beginOf, Cond.selects RX6 yX6_beginOf yX6_beginOf, Cond.code yX6_beginOf cX6_beginOf 4 (some .int), Cond.methodLink RX6 73 yX6_of, Cond.instanceMethod yX6_of, Cond.selects RX6 yX6_of yX6_of, Cond.code yX6_of cX6_of 3 (some .int), Cond.methodLink RX6 107 yX6_isDriven, Cond.instanceMethod yX6_isDriven, Cond.selects RX6 yX6_isDriven yX6_isDriven, Cond.code yX6_isDriven cX6_isDriven 3 (some .boolean), Cond.methodLink RX6 91 yX6_litPart, Cond.instanceMethod yX6_litPart, Cond.selects RX6 yX6_litPart yX6_litPart, Cond.code yX6_litPart cX6_litPart 2 (some .int), Cond.methodLink RX6 101 yX6_isOn, Cond.instanceMethod yX6_isOn]
def wsX6_litNow_r2 : List Cond := [Cond.selects RX6 yX6_isOn yX6_isOn, Cond.code yX6_isOn cX6_isOn 3 (some .boolean)]
def wsX6_litNow : List Cond := .code yX6_litNow cX6_litNow 3 (some .int) :: ((wsX6_litNow_r1 ++ wsX6_litNow_r2) ++ wsX60)
def wsX6_brighter : List Cond := .code yX6_brighter cX6_brighter 3 (some .int) :: ([])
def wsX6_darker : List Cond := .code yX6_darker cX6_darker 3 (some .int) :: ([.fieldLink RX6 7 "ScannedDigitsModel" "row" "[I"] ++ wsX60)
def wsX6_light : List Cond := .code yX6_light cX6_light 5 none :: ([.fieldLink RX6 7 "ScannedDigitsModel" "row" "[I", .methodLink RX6 110 yX6_brighter, .static yX6_brighter, .initialized RX6, .code yX6_brighter cX6_brighter 3 (some .int), .methodLink RX6 113 yX6_darker, .instanceMethod yX6_darker, .selects RX6 yX6_darker yX6_darker, .code yX6_darker cX6_darker 3 (some .int)] ++ wsX60)
def wsX6_tick_r1 : List Cond := [Cond.fieldLink RX6 7 "ScannedDigitsModel" "row" "[I", Cond.fieldLink RX6 13 "ScannedDigitsModel" "flow" "[F", Cond.constantFloat RX6 123 (1075838976), Cond.constantFloat RX6 124 (1040187392), Cond.constantFloat RX6 125 (981668463), Cond.methodLink RX6 104 yX6_slotNow, Cond.instanceMethod yX6_slotNow, Cond.selects RX6 yX6_slotNow yX6_slotNow, Cond.initialized RX6, Cond.code yX6_slotNow cX6_slotNow 2 (some .int), Cond.methodLink RX6 77 yX6_beginOf, Cond.instanceMethod yX6_beginOf, Cond.selects RX6 yX6_beginOf yX6_beginOf, Cond.code yX6_beginOf cX6_beginOf 4 (some .int), Cond.methodLink RX6 73 yX6_of, Cond.instanceMethod yX6_of, Cond.selects RX6 yX6_of yX6_of, Cond.code yX6_of cX6_of 3 (some .int), Cond.methodLink RX6 116 yX6_litNow, Cond.instanceMethod yX6_litNow, Cond.selects RX6 yX6_litNow yX6_litNow, Cond.code yX6_litNow cX6_litNow 3 (some .int), Cond.methodLink RX6 107 yX6_isDriven, Cond.instanceMethod yX6_isDriven]
def wsX6_tick_r2 : List Cond := [Cond.selects RX6 yX6_isDriven yX6_isDriven, Cond.code yX6_isDriven cX6_isDriven 3 (some .boolean), Cond.methodLink RX6 91 yX6_litPart, Cond.instanceMethod yX6_litPart, Cond.selects RX6 yX6_litPart yX6_litPart, Cond.code yX6_litPart cX6_litPart 2 (some .int), Cond.methodLink RX6 101 yX6_isOn, Cond.instanceMethod yX6_isOn, Cond.selects RX6 yX6_isOn yX6_isOn, Cond.code yX6_isOn cX6_isOn 3 (some .boolean), Cond.methodLink RX6 66 yX6_put, Cond.instanceMethod yX6_put, Cond.selects RX6 yX6_put yX6_put, Cond.code yX6_put cX6_put 4 none, Cond.methodLink RX6 119 yX6_light, Cond.instanceMethod yX6_light, Cond.selects RX6 yX6_light yX6_light, Cond.code yX6_light cX6_light 5 none, Cond.methodLink RX6 110 yX6_brighter, Cond.static yX6_brighter, Cond.code yX6_brighter cX6_brighter 3 (some .int), Cond.methodLink RX6 113 yX6_darker, Cond.instanceMethod yX6_darker, Cond.selects RX6 yX6_darker yX6_darker]
def wsX6_tick_r3 : List Cond := [Cond.code yX6_darker cX6_darker 3 (some .int), Cond.methodLink RX6 87 yX6_frameLength, Cond.instanceMethod yX6_frameLength, Cond.selects RX6 yX6_frameLength yX6_frameLength, Cond.code yX6_frameLength cX6_frameLength 1 (some .int), Cond.methodLink RX6 80 yX6_endFrame, Cond.instanceMethod yX6_endFrame, Cond.selects RX6 yX6_endFrame yX6_endFrame, Cond.code yX6_endFrame cX6_endFrame 1 none]
def wsX6_tick : List Cond := .code yX6_tick cX6_tick 7 (some .int) :: ((wsX6_tick_r1 ++ (wsX6_tick_r2 ++ wsX6_tick_r3)) ++ wsX60)
def wsX6_pass_r1 : List Cond := [Cond.methodLink RX6 55 yX6_in, Cond.static yX6_in, Cond.initialized RX6, Cond.code yX6_in cX6_in 3 (some .boolean), Cond.methodLink RX6 59 yX6_begin, Cond.instanceMethod yX6_begin, Cond.selects RX6 yX6_begin yX6_begin, Cond.code yX6_begin cX6_begin 2 none, Cond.fieldLink RX6 17 "ScannedDigitsModel" "scratch" "[I", Cond.fieldLink RX6 7 "ScannedDigitsModel" "row" "[I", Cond.fieldLink RX6 20 "ScannedDigitsModel" "scratchFlow" "[F", Cond.fieldLink RX6 13 "ScannedDigitsModel" "flow" "[F", Cond.methodLink RX6 126 yX6_tick, Cond.instanceMethod yX6_tick, Cond.selects RX6 yX6_tick yX6_tick, Cond.code yX6_tick cX6_tick 7 (some .int), Cond.constantFloat RX6 123 (1075838976), Cond.constantFloat RX6 124 (1040187392), Cond.constantFloat RX6 125 (981668463), Cond.methodLink RX6 104 yX6_slotNow, Cond.instanceMethod yX6_slotNow, Cond.selects RX6 yX6_slotNow yX6_slotNow, Cond.code yX6_slotNow cX6_slotNow 2 (some .int), Cond.methodLink RX6 77 yX6_beginOf]
def wsX6_pass_r2 : List Cond := [Cond.instanceMethod yX6_beginOf, Cond.selects RX6 yX6_beginOf yX6_beginOf, Cond.code yX6_beginOf cX6_beginOf 4 (some .int), Cond.methodLink RX6 73 yX6_of, Cond.instanceMethod yX6_of, Cond.selects RX6 yX6_of yX6_of, Cond.code yX6_of cX6_of 3 (some .int), Cond.methodLink RX6 116 yX6_litNow, Cond.instanceMethod yX6_litNow, Cond.selects RX6 yX6_litNow yX6_litNow, Cond.code yX6_litNow cX6_litNow 3 (some .int), Cond.methodLink RX6 107 yX6_isDriven, Cond.instanceMethod yX6_isDriven, Cond.selects RX6 yX6_isDriven yX6_isDriven, Cond.code yX6_isDriven cX6_isDriven 3 (some .boolean), Cond.methodLink RX6 91 yX6_litPart, Cond.instanceMethod yX6_litPart, Cond.selects RX6 yX6_litPart yX6_litPart, Cond.code yX6_litPart cX6_litPart 2 (some .int), Cond.methodLink RX6 101 yX6_isOn, Cond.instanceMethod yX6_isOn, Cond.selects RX6 yX6_isOn yX6_isOn, Cond.code yX6_isOn cX6_isOn 3 (some .boolean), Cond.methodLink RX6 66 yX6_put]
def wsX6_pass_r3 : List Cond := [Cond.instanceMethod yX6_put, Cond.selects RX6 yX6_put yX6_put, Cond.code yX6_put cX6_put 4 none, Cond.methodLink RX6 119 yX6_light, Cond.instanceMethod yX6_light, Cond.selects RX6 yX6_light yX6_light, Cond.code yX6_light cX6_light 5 none, Cond.methodLink RX6 110 yX6_brighter, Cond.static yX6_brighter, Cond.code yX6_brighter cX6_brighter 3 (some .int), Cond.methodLink RX6 113 yX6_darker, Cond.instanceMethod yX6_darker, Cond.selects RX6 yX6_darker yX6_darker, Cond.code yX6_darker cX6_darker 3 (some .int), Cond.methodLink RX6 87 yX6_frameLength, Cond.instanceMethod yX6_frameLength, Cond.selects RX6 yX6_frameLength yX6_frameLength, Cond.code yX6_frameLength cX6_frameLength 1 (some .int), Cond.methodLink RX6 80 yX6_endFrame, Cond.instanceMethod yX6_endFrame, Cond.selects RX6 yX6_endFrame yX6_endFrame, Cond.code yX6_endFrame cX6_endFrame 1 none, Cond.methodLink RX6 62 yX6_done, Cond.instanceMethod yX6_done]
def wsX6_pass_r4 : List Cond := [Cond.selects RX6 yX6_done yX6_done, Cond.code yX6_done cX6_done 3 (some .int), Cond.fieldLink RX6 51 "ScannedDigitsModel" "kept" "I", Cond.fieldLink RX6 23 "ScannedDigitsModel" "history" "[I", Cond.fieldLink RX6 26 "ScannedDigitsModel" "historyFlow" "[F"]
def wsX6_pass : List Cond := .code yX6_pass cX6_pass 4 (some .int) :: ((wsX6_pass_r1 ++ (wsX6_pass_r2 ++ (wsX6_pass_r3 ++ wsX6_pass_r4))) ++ wsX60)
def wsX6_passFrames_r1 : List Cond := [Cond.fieldLink RX6 7 "ScannedDigitsModel" "row" "[I", Cond.methodLink RX6 55 yX6_in, Cond.static yX6_in, Cond.initialized RX6, Cond.code yX6_in cX6_in 3 (some .boolean), Cond.methodLink RX6 59 yX6_begin, Cond.instanceMethod yX6_begin, Cond.selects RX6 yX6_begin yX6_begin, Cond.code yX6_begin cX6_begin 2 none, Cond.fieldLink RX6 17 "ScannedDigitsModel" "scratch" "[I", Cond.fieldLink RX6 20 "ScannedDigitsModel" "scratchFlow" "[F", Cond.fieldLink RX6 13 "ScannedDigitsModel" "flow" "[F", Cond.methodLink RX6 126 yX6_tick, Cond.instanceMethod yX6_tick, Cond.selects RX6 yX6_tick yX6_tick, Cond.code yX6_tick cX6_tick 7 (some .int), Cond.constantFloat RX6 123 (1075838976), Cond.constantFloat RX6 124 (1040187392), Cond.constantFloat RX6 125 (981668463), Cond.methodLink RX6 104 yX6_slotNow, Cond.instanceMethod yX6_slotNow, Cond.selects RX6 yX6_slotNow yX6_slotNow, Cond.code yX6_slotNow cX6_slotNow 2 (some .int), Cond.methodLink RX6 77 yX6_beginOf]
def wsX6_passFrames_r2 : List Cond := [Cond.instanceMethod yX6_beginOf, Cond.selects RX6 yX6_beginOf yX6_beginOf, Cond.code yX6_beginOf cX6_beginOf 4 (some .int), Cond.methodLink RX6 73 yX6_of, Cond.instanceMethod yX6_of, Cond.selects RX6 yX6_of yX6_of, Cond.code yX6_of cX6_of 3 (some .int), Cond.methodLink RX6 116 yX6_litNow, Cond.instanceMethod yX6_litNow, Cond.selects RX6 yX6_litNow yX6_litNow, Cond.code yX6_litNow cX6_litNow 3 (some .int), Cond.methodLink RX6 107 yX6_isDriven, Cond.instanceMethod yX6_isDriven, Cond.selects RX6 yX6_isDriven yX6_isDriven, Cond.code yX6_isDriven cX6_isDriven 3 (some .boolean), Cond.methodLink RX6 91 yX6_litPart, Cond.instanceMethod yX6_litPart, Cond.selects RX6 yX6_litPart yX6_litPart, Cond.code yX6_litPart cX6_litPart 2 (some .int), Cond.methodLink RX6 101 yX6_isOn, Cond.instanceMethod yX6_isOn, Cond.selects RX6 yX6_isOn yX6_isOn, Cond.code yX6_isOn cX6_isOn 3 (some .boolean), Cond.methodLink RX6 66 yX6_put]
def wsX6_passFrames_r3 : List Cond := [Cond.instanceMethod yX6_put, Cond.selects RX6 yX6_put yX6_put, Cond.code yX6_put cX6_put 4 none, Cond.methodLink RX6 119 yX6_light, Cond.instanceMethod yX6_light, Cond.selects RX6 yX6_light yX6_light, Cond.code yX6_light cX6_light 5 none, Cond.methodLink RX6 110 yX6_brighter, Cond.static yX6_brighter, Cond.code yX6_brighter cX6_brighter 3 (some .int), Cond.methodLink RX6 113 yX6_darker, Cond.instanceMethod yX6_darker, Cond.selects RX6 yX6_darker yX6_darker, Cond.code yX6_darker cX6_darker 3 (some .int), Cond.methodLink RX6 87 yX6_frameLength, Cond.instanceMethod yX6_frameLength, Cond.selects RX6 yX6_frameLength yX6_frameLength, Cond.code yX6_frameLength cX6_frameLength 1 (some .int), Cond.methodLink RX6 80 yX6_endFrame, Cond.instanceMethod yX6_endFrame, Cond.selects RX6 yX6_endFrame yX6_endFrame, Cond.code yX6_endFrame cX6_endFrame 1 none, Cond.methodLink RX6 62 yX6_done, Cond.instanceMethod yX6_done]
def wsX6_passFrames_r4 : List Cond := [Cond.selects RX6 yX6_done yX6_done, Cond.code yX6_done cX6_done 3 (some .int), Cond.fieldLink RX6 51 "ScannedDigitsModel" "kept" "I", Cond.fieldLink RX6 23 "ScannedDigitsModel" "history" "[I", Cond.fieldLink RX6 26 "ScannedDigitsModel" "historyFlow" "[F"]
def wsX6_passFrames : List Cond := .code yX6_passFrames cX6_passFrames 4 (some .int) :: ((wsX6_passFrames_r1 ++ (wsX6_passFrames_r2 ++ (wsX6_passFrames_r3 ++ wsX6_passFrames_r4))) ++ wsX60)
def wsX6_type : List Cond := .code yX6_type cX6_type 2 (some .int) :: ([.fieldLink RX6 129 "ScannedDigitsModel" "typed" "I", .fieldLink RX6 39 "ScannedDigitsModel" "text" "[C"] ++ wsX60)
def wsX6_clearText : List Cond := .code yX6_clearText cX6_clearText 2 (some .int) :: ([.fieldLink RX6 129 "ScannedDigitsModel" "typed" "I"] ++ wsX60)
def wsX6_patternOf : List Cond := .code yX6_patternOf cX6_patternOf 1 (some .int) :: ([])
def wsX6_charOf : List Cond := .code yX6_charOf cX6_charOf 3 (some .int) :: ([.methodLink RX6 132 yX6_patternOf, .static yX6_patternOf, .initialized RX6, .code yX6_patternOf cX6_patternOf 1 (some .int)])
def wsX6_show_r1 : List Cond := [Cond.fieldLink RX6 129 "ScannedDigitsModel" "typed" "I", Cond.fieldLink RX6 39 "ScannedDigitsModel" "text" "[C", Cond.fieldLink RX6 7 "ScannedDigitsModel" "row" "[I", Cond.fieldLink RX6 43 "ScannedDigitsModel" "read" "[I", Cond.methodLink RX6 132 yX6_patternOf, Cond.static yX6_patternOf, Cond.initialized RX6, Cond.code yX6_patternOf cX6_patternOf 1 (some .int), Cond.methodLink RX6 59 yX6_begin, Cond.instanceMethod yX6_begin, Cond.selects RX6 yX6_begin yX6_begin, Cond.code yX6_begin cX6_begin 2 none, Cond.fieldLink RX6 17 "ScannedDigitsModel" "scratch" "[I", Cond.fieldLink RX6 20 "ScannedDigitsModel" "scratchFlow" "[F", Cond.fieldLink RX6 13 "ScannedDigitsModel" "flow" "[F", Cond.methodLink RX6 66 yX6_put, Cond.instanceMethod yX6_put, Cond.selects RX6 yX6_put yX6_put, Cond.code yX6_put cX6_put 4 none, Cond.methodLink RX6 62 yX6_done, Cond.instanceMethod yX6_done, Cond.selects RX6 yX6_done yX6_done, Cond.code yX6_done cX6_done 3 (some .int), Cond.fieldLink RX6 51 "ScannedDigitsModel" "kept" "I"]
def wsX6_show_r2 : List Cond := [Cond.fieldLink RX6 23 "ScannedDigitsModel" "history" "[I", Cond.fieldLink RX6 26 "ScannedDigitsModel" "historyFlow" "[F"]
def wsX6_show : List Cond := .code yX6_show cX6_show 6 (some .int) :: ((wsX6_show_r1 ++ wsX6_show_r2) ++ wsX60)
def wsX6_seenOf : List Cond := .code yX6_seenOf cX6_seenOf 4 (some .int) :: ([.fieldLink RX6 7 "ScannedDigitsModel" "row" "[I"] ++ wsX60)
def wsX6_glowOf : List Cond := .code yX6_glowOf cX6_glowOf 4 (some .int) :: ([.fieldLink RX6 7 "ScannedDigitsModel" "row" "[I"] ++ wsX60)
def wsX6_digit_r1 : List Cond := [Cond.fieldLink RX6 7 "ScannedDigitsModel" "row" "[I", Cond.methodLink RX6 83 yX6_noDigit, Cond.instanceMethod yX6_noDigit, Cond.selects RX6 yX6_noDigit yX6_noDigit, Cond.initialized RX6, Cond.code yX6_noDigit cX6_noDigit 2 (some .boolean), Cond.methodLink RX6 55 yX6_in, Cond.static yX6_in, Cond.code yX6_in cX6_in 3 (some .boolean), Cond.methodLink RX6 73 yX6_of, Cond.instanceMethod yX6_of, Cond.selects RX6 yX6_of yX6_of, Cond.code yX6_of cX6_of 3 (some .int), Cond.methodLink RX6 91 yX6_litPart, Cond.instanceMethod yX6_litPart, Cond.selects RX6 yX6_litPart yX6_litPart, Cond.code yX6_litPart cX6_litPart 2 (some .int), Cond.methodLink RX6 77 yX6_beginOf, Cond.instanceMethod yX6_beginOf, Cond.selects RX6 yX6_beginOf yX6_beginOf, Cond.code yX6_beginOf cX6_beginOf 4 (some .int), Cond.methodLink RX6 136 yX6_seenOf, Cond.instanceMethod yX6_seenOf, Cond.selects RX6 yX6_seenOf yX6_seenOf]
def wsX6_digit_r2 : List Cond := [Cond.code yX6_seenOf cX6_seenOf 4 (some .int), Cond.methodLink RX6 139 yX6_glowOf, Cond.instanceMethod yX6_glowOf, Cond.selects RX6 yX6_glowOf yX6_glowOf, Cond.code yX6_glowOf cX6_glowOf 4 (some .int), Cond.methodLink RX6 142 yX6_charOf, Cond.instanceMethod yX6_charOf, Cond.selects RX6 yX6_charOf yX6_charOf, Cond.code yX6_charOf cX6_charOf 3 (some .int), Cond.methodLink RX6 132 yX6_patternOf, Cond.static yX6_patternOf, Cond.code yX6_patternOf cX6_patternOf 1 (some .int)]
def wsX6_digit : List Cond := .code yX6_digit cX6_digit 3 (some .int) :: ((wsX6_digit_r1 ++ wsX6_digit_r2) ++ wsX60)
def wsX6_segment : List Cond := .code yX6_segment cX6_segment 4 (some .int) :: ([.fieldLink RX6 7 "ScannedDigitsModel" "row" "[I", .methodLink RX6 83 yX6_noDigit, .instanceMethod yX6_noDigit, .selects RX6 yX6_noDigit yX6_noDigit, .initialized RX6, .code yX6_noDigit cX6_noDigit 2 (some .boolean), .methodLink RX6 55 yX6_in, .static yX6_in, .code yX6_in cX6_in 3 (some .boolean), .methodLink RX6 136 yX6_seenOf, .instanceMethod yX6_seenOf, .selects RX6 yX6_seenOf yX6_seenOf, .code yX6_seenOf cX6_seenOf 4 (some .int)] ++ wsX60)
def wsX6_litIn_r1 : List Cond := [Cond.methodLink RX6 83 yX6_noDigit, Cond.instanceMethod yX6_noDigit, Cond.selects RX6 yX6_noDigit yX6_noDigit, Cond.initialized RX6, Cond.code yX6_noDigit cX6_noDigit 2 (some .boolean), Cond.fieldLink RX6 7 "ScannedDigitsModel" "row" "[I", Cond.methodLink RX6 55 yX6_in, Cond.static yX6_in, Cond.code yX6_in cX6_in 3 (some .boolean), Cond.methodLink RX6 59 yX6_begin, Cond.instanceMethod yX6_begin, Cond.selects RX6 yX6_begin yX6_begin, Cond.code yX6_begin cX6_begin 2 none, Cond.fieldLink RX6 17 "ScannedDigitsModel" "scratch" "[I", Cond.fieldLink RX6 20 "ScannedDigitsModel" "scratchFlow" "[F", Cond.fieldLink RX6 13 "ScannedDigitsModel" "flow" "[F", Cond.methodLink RX6 126 yX6_tick, Cond.instanceMethod yX6_tick, Cond.selects RX6 yX6_tick yX6_tick, Cond.code yX6_tick cX6_tick 7 (some .int), Cond.constantFloat RX6 123 (1075838976), Cond.constantFloat RX6 124 (1040187392), Cond.constantFloat RX6 125 (981668463), Cond.methodLink RX6 104 yX6_slotNow]
def wsX6_litIn_r2 : List Cond := [Cond.instanceMethod yX6_slotNow, Cond.selects RX6 yX6_slotNow yX6_slotNow, Cond.code yX6_slotNow cX6_slotNow 2 (some .int), Cond.methodLink RX6 77 yX6_beginOf, Cond.instanceMethod yX6_beginOf, Cond.selects RX6 yX6_beginOf yX6_beginOf, Cond.code yX6_beginOf cX6_beginOf 4 (some .int), Cond.methodLink RX6 73 yX6_of, Cond.instanceMethod yX6_of, Cond.selects RX6 yX6_of yX6_of, Cond.code yX6_of cX6_of 3 (some .int), Cond.methodLink RX6 116 yX6_litNow, Cond.instanceMethod yX6_litNow, Cond.selects RX6 yX6_litNow yX6_litNow, Cond.code yX6_litNow cX6_litNow 3 (some .int), Cond.methodLink RX6 107 yX6_isDriven, Cond.instanceMethod yX6_isDriven, Cond.selects RX6 yX6_isDriven yX6_isDriven, Cond.code yX6_isDriven cX6_isDriven 3 (some .boolean), Cond.methodLink RX6 91 yX6_litPart, Cond.instanceMethod yX6_litPart, Cond.selects RX6 yX6_litPart yX6_litPart, Cond.code yX6_litPart cX6_litPart 2 (some .int), Cond.methodLink RX6 101 yX6_isOn]
def wsX6_litIn_r3 : List Cond := [Cond.instanceMethod yX6_isOn, Cond.selects RX6 yX6_isOn yX6_isOn, Cond.code yX6_isOn cX6_isOn 3 (some .boolean), Cond.methodLink RX6 66 yX6_put, Cond.instanceMethod yX6_put, Cond.selects RX6 yX6_put yX6_put, Cond.code yX6_put cX6_put 4 none, Cond.methodLink RX6 119 yX6_light, Cond.instanceMethod yX6_light, Cond.selects RX6 yX6_light yX6_light, Cond.code yX6_light cX6_light 5 none, Cond.methodLink RX6 110 yX6_brighter, Cond.static yX6_brighter, Cond.code yX6_brighter cX6_brighter 3 (some .int), Cond.methodLink RX6 113 yX6_darker, Cond.instanceMethod yX6_darker, Cond.selects RX6 yX6_darker yX6_darker, Cond.code yX6_darker cX6_darker 3 (some .int), Cond.methodLink RX6 87 yX6_frameLength, Cond.instanceMethod yX6_frameLength, Cond.selects RX6 yX6_frameLength yX6_frameLength, Cond.code yX6_frameLength cX6_frameLength 1 (some .int), Cond.methodLink RX6 80 yX6_endFrame, Cond.instanceMethod yX6_endFrame]
def wsX6_litIn_r4 : List Cond := [Cond.selects RX6 yX6_endFrame yX6_endFrame, Cond.code yX6_endFrame cX6_endFrame 1 none, Cond.methodLink RX6 145 yX6_goBack, Cond.instanceMethod yX6_goBack, Cond.selects RX6 yX6_goBack yX6_goBack, Cond.code yX6_goBack cX6_goBack 2 none]
def wsX6_litIn : List Cond := .code yX6_litIn cX6_litIn 5 (some .int) :: ((wsX6_litIn_r1 ++ (wsX6_litIn_r2 ++ (wsX6_litIn_r3 ++ wsX6_litIn_r4))) ++ wsX60)
def wsX6_steadyGlow_r1 : List Cond := [Cond.methodLink RX6 83 yX6_noDigit, Cond.instanceMethod yX6_noDigit, Cond.selects RX6 yX6_noDigit yX6_noDigit, Cond.initialized RX6, Cond.code yX6_noDigit cX6_noDigit 2 (some .boolean), Cond.fieldLink RX6 7 "ScannedDigitsModel" "row" "[I", Cond.methodLink RX6 55 yX6_in, Cond.static yX6_in, Cond.code yX6_in cX6_in 3 (some .boolean), Cond.methodLink RX6 91 yX6_litPart, Cond.instanceMethod yX6_litPart, Cond.selects RX6 yX6_litPart yX6_litPart, Cond.code yX6_litPart cX6_litPart 2 (some .int), Cond.methodLink RX6 73 yX6_of, Cond.instanceMethod yX6_of, Cond.selects RX6 yX6_of yX6_of, Cond.code yX6_of cX6_of 3 (some .int), Cond.methodLink RX6 87 yX6_frameLength, Cond.instanceMethod yX6_frameLength, Cond.selects RX6 yX6_frameLength yX6_frameLength, Cond.code yX6_frameLength cX6_frameLength 1 (some .int), Cond.methodLink RX6 77 yX6_beginOf, Cond.instanceMethod yX6_beginOf, Cond.selects RX6 yX6_beginOf yX6_beginOf]
def wsX6_steadyGlow_r2 : List Cond := [Cond.code yX6_beginOf cX6_beginOf 4 (some .int), Cond.methodLink RX6 110 yX6_brighter, Cond.static yX6_brighter, Cond.code yX6_brighter cX6_brighter 3 (some .int), Cond.methodLink RX6 113 yX6_darker, Cond.instanceMethod yX6_darker, Cond.selects RX6 yX6_darker yX6_darker, Cond.code yX6_darker cX6_darker 3 (some .int)]
def wsX6_steadyGlow : List Cond := .code yX6_steadyGlow cX6_steadyGlow 8 (some .int) :: ((wsX6_steadyGlow_r1 ++ wsX6_steadyGlow_r2) ++ wsX60)
def wsX6_current : List Cond := .code yX6_current cX6_current 2 (some .float) :: ([.fieldLink RX6 13 "ScannedDigitsModel" "flow" "[F", .methodLink RX6 55 yX6_in, .static yX6_in, .initialized RX6, .code yX6_in cX6_in 3 (some .boolean)] ++ wsX60)
def wsX6_thousandths : List Cond := .code yX6_thousandths cX6_thousandths 2 (some .int) :: ([.fieldLink RX6 13 "ScannedDigitsModel" "flow" "[F", .constantFloat RX6 148 (1148846080), .methodLink RX6 55 yX6_in, .static yX6_in, .initialized RX6, .code yX6_in cX6_in 3 (some .boolean)] ++ wsX60)
def wsX6_duty : List Cond := .code yX6_duty cX6_duty 2 (some .float) :: ([.fieldLink RX6 7 "ScannedDigitsModel" "row" "[I", .methodLink RX6 83 yX6_noDigit, .instanceMethod yX6_noDigit, .selects RX6 yX6_noDigit yX6_noDigit, .initialized RX6, .code yX6_noDigit cX6_noDigit 2 (some .boolean), .methodLink RX6 55 yX6_in, .static yX6_in, .code yX6_in cX6_in 3 (some .boolean), .methodLink RX6 73 yX6_of, .instanceMethod yX6_of, .selects RX6 yX6_of yX6_of, .code yX6_of cX6_of 3 (some .int)] ++ wsX60)
def wsX6_broken : List Cond := .code yX6_broken cX6_broken 3 (some .int) :: ([.fieldLink RX6 7 "ScannedDigitsModel" "row" "[I", .methodLink RX6 98 yX6_brokenOf, .instanceMethod yX6_brokenOf, .selects RX6 yX6_brokenOf yX6_brokenOf, .initialized RX6, .code yX6_brokenOf cX6_brokenOf 4 (some .int)] ++ wsX60)
def wsX6_count_r1 : List Cond := [Cond.fieldLink RX6 7 "ScannedDigitsModel" "row" "[I", Cond.fieldLink RX6 51 "ScannedDigitsModel" "kept" "I", Cond.fieldLink RX6 129 "ScannedDigitsModel" "typed" "I", Cond.methodLink RX6 87 yX6_frameLength, Cond.instanceMethod yX6_frameLength, Cond.selects RX6 yX6_frameLength yX6_frameLength, Cond.initialized RX6, Cond.code yX6_frameLength cX6_frameLength 1 (some .int), Cond.methodLink RX6 77 yX6_beginOf, Cond.instanceMethod yX6_beginOf, Cond.selects RX6 yX6_beginOf yX6_beginOf, Cond.code yX6_beginOf cX6_beginOf 4 (some .int), Cond.methodLink RX6 73 yX6_of, Cond.instanceMethod yX6_of, Cond.selects RX6 yX6_of yX6_of, Cond.code yX6_of cX6_of 3 (some .int), Cond.methodLink RX6 104 yX6_slotNow, Cond.instanceMethod yX6_slotNow, Cond.selects RX6 yX6_slotNow yX6_slotNow, Cond.code yX6_slotNow cX6_slotNow 2 (some .int), Cond.methodLink RX6 149 yX6_broken, Cond.instanceMethod yX6_broken, Cond.selects RX6 yX6_broken yX6_broken, Cond.code yX6_broken cX6_broken 3 (some .int)]
def wsX6_count_r2 : List Cond := [Cond.methodLink RX6 98 yX6_brokenOf, Cond.instanceMethod yX6_brokenOf, Cond.selects RX6 yX6_brokenOf yX6_brokenOf, Cond.code yX6_brokenOf cX6_brokenOf 4 (some .int)]
def wsX6_count : List Cond := .code yX6_count cX6_count 2 (some .int) :: ((wsX6_count_r1 ++ wsX6_count_r2) ++ wsX60)
def wsX6_group : List Cond := .code yX6_group cX6_group 3 (some .int) :: ([.fieldLink RX6 7 "ScannedDigitsModel" "row" "[I", .methodLink RX6 55 yX6_in, .static yX6_in, .initialized RX6, .code yX6_in cX6_in 3 (some .boolean), .methodLink RX6 101 yX6_isOn, .instanceMethod yX6_isOn, .selects RX6 yX6_isOn yX6_isOn, .code yX6_isOn cX6_isOn 3 (some .boolean), .methodLink RX6 94 yX6_digitsIn, .instanceMethod yX6_digitsIn, .selects RX6 yX6_digitsIn yX6_digitsIn, .code yX6_digitsIn cX6_digitsIn 4 (some .int), .methodLink RX6 73 yX6_of, .instanceMethod yX6_of, .selects RX6 yX6_of yX6_of, .code yX6_of cX6_of 3 (some .int)] ++ wsX60)
def wsJ9_max_7cf53 : List Cond := .code yJ9_max_7cf53 cJ9_max_7cf53 2 (some .int) :: ([])
def wsJ9_min_7cf53 : List Cond := .code yJ9_min_7cf53 cJ9_min_7cf53 2 (some .int) :: ([])
def wsL_law_r1 : List Cond := [Cond.classLink RL 7 RX5, Cond.instantiable RX5 5, Cond.initialized RX5, Cond.classLink RL 10 RX6, Cond.instantiable RX6 13, Cond.initialized RX6, Cond.methodLink RL 9 yX5_init, Cond.instanceMethod yX5_init, Cond.code yX5_init cX5_init 2 none, Cond.methodLink RX5 1 objectInit, Cond.instanceMethod objectInit, Cond.code objectInit ⟨#[0xb1]⟩ 1 none, Cond.classLink RX5 7 RX3, Cond.instantiable RX3 13, Cond.initialized RX3, Cond.fieldLink RX5 10 "ScannedDigits" "now" "LScannedDigits$State;", Cond.fieldLink RX5 16 "ScannedDigits" "future" "LScannedDigits$State;", Cond.classLink RX5 19 RX1, Cond.instantiable RX1 3, Cond.initialized RX1, Cond.fieldLink RX5 22 "ScannedDigits" "history" "LScannedDigits$History;", Cond.classLink RX5 26 RX2, Cond.fieldLink RX5 28 "ScannedDigits" "snapshots" "[LScannedDigits$Snapshot;", Cond.classLink RX5 32 RX4]
def wsL_law_r2 : List Cond := [Cond.instantiable RX4 4, Cond.initialized RX4, Cond.fieldLink RX5 35 "ScannedDigits" "text" "LScannedDigits$Text;", Cond.instantiable RX2 2, Cond.initialized RX2, Cond.methodLink RX5 9 yX3_init, Cond.instanceMethod yX3_init, Cond.code yX3_init cX3_init 2 none, Cond.methodLink RX3 3 objectInit, Cond.classLink RX3 9 RX0, Cond.fieldLink RX3 11 "ScannedDigits$State" "digits" "[LScannedDigits$Digit;", Cond.fieldLink RX3 17 "ScannedDigits$State" "digitCount" "I", Cond.arrayClass .int, Cond.fieldLink RX3 21 "ScannedDigits$State" "on" "[I", Cond.fieldLink RX3 25 "ScannedDigits$State" "off" "[I", Cond.methodLink RX3 31 ⟨"[I", "clone", "()Ljava/lang/Object;"⟩, Cond.sameMethod "[I" "java/lang/Object" "clone" "()Ljava/lang/Object;", Cond.native ⟨"java/lang/Object", "clone", "()Ljava/lang/Object;"⟩, Cond.instanceMethod ⟨"java/lang/Object", "clone", "()Ljava/lang/Object;"⟩, Cond.selects "[I" ⟨"[I", "clone", "()Ljava/lang/Object;"⟩ ⟨"java/lang/Object", "clone", "()Ljava/lang/Object;"⟩, Cond.classLink RX3 32 "[I", Cond.fieldLink RX3 36 "ScannedDigits$State" "settings" "[I", Cond.instantiable RX0 9, Cond.initialized RX0]
def wsL_law_r3 : List Cond := [Cond.methodLink RX3 39 yX0_init, Cond.instanceMethod yX0_init, Cond.code yX0_init cX0_init 1 none, Cond.methodLink RX0 3 objectInit, Cond.fieldLink RX0 9 "ScannedDigits$Digit" "glow" "[I", Cond.fieldLink RX0 15 "ScannedDigits$Digit" "use" "[I", Cond.methodLink RX0 18 yX0_makeNew, Cond.instanceMethod yX0_makeNew, Cond.selects RX0 yX0_makeNew yX0_makeNew, Cond.code yX0_makeNew cX0_makeNew 1 none, Cond.fieldLink RX0 21 "ScannedDigits$Digit" "width" "I", Cond.fieldLink RX0 25 "ScannedDigits$Digit" "guard" "I", Cond.fieldLink RX0 28 "ScannedDigits$Digit" "brightness" "I", Cond.fieldLink RX0 31 "ScannedDigits$Digit" "pattern" "I", Cond.fieldLink RX0 34 "ScannedDigits$Digit" "group" "I", Cond.fieldLink RX0 37 "ScannedDigits$Digit" "drivenTicks" "I", Cond.methodLink RX0 40 yX0_renewSegments, Cond.instanceMethod yX0_renewSegments, Cond.selects RX0 yX0_renewSegments yX0_renewSegments, Cond.code yX0_renewSegments cX0_renewSegments 2 none, Cond.fieldLink RX0 43 "ScannedDigits$Digit" "broken" "I", Cond.methodLink RX5 21 yX1_init, Cond.instanceMethod yX1_init, Cond.code yX1_init cX1_init 2 none]
def wsL_law_r4 : List Cond := [Cond.methodLink RX1 3 objectInit, Cond.classLink RX1 9 RX3, Cond.fieldLink RX1 11 "ScannedDigits$History" "rows" "[LScannedDigits$State;", Cond.methodLink RX1 17 yX3_init, Cond.instanceMethod yX4_init, Cond.code yX4_init cX4_init 1 none, Cond.methodLink RX4 3 objectInit, Cond.arrayClass .char, Cond.fieldLink RX4 9 "ScannedDigits$Text" "characters" "[C", Cond.fieldLink RX4 15 "ScannedDigits$Text" "patterns" "[I", Cond.instanceMethod yX2_init, Cond.code yX2_init cX2_init 1 none, Cond.methodLink RX2 1 objectInit, Cond.classLink RX2 7 RX3, Cond.fieldLink RX2 10 "ScannedDigits$Snapshot" "state" "LScannedDigits$State;", Cond.methodLink RX2 9 yX3_init, Cond.methodLink RL 12 yX6_init, Cond.instanceMethod yX6_init, Cond.code yX6_init cX6_init 2 none, Cond.methodLink RX6 1 objectInit, Cond.fieldLink RX6 7 "ScannedDigitsModel" "row" "[I", Cond.arrayClass .float, Cond.fieldLink RX6 13 "ScannedDigitsModel" "flow" "[F", Cond.fieldLink RX6 17 "ScannedDigitsModel" "scratch" "[I"]
def wsL_law_r5 : List Cond := [Cond.fieldLink RX6 20 "ScannedDigitsModel" "scratchFlow" "[F", Cond.fieldLink RX6 23 "ScannedDigitsModel" "history" "[I", Cond.fieldLink RX6 26 "ScannedDigitsModel" "historyFlow" "[F", Cond.fieldLink RX6 29 "ScannedDigitsModel" "slots" "[I", Cond.fieldLink RX6 32 "ScannedDigitsModel" "slotFlow" "[F", Cond.arrayClass .boolean, Cond.fieldLink RX6 35 "ScannedDigitsModel" "isKept" "[Z", Cond.fieldLink RX6 39 "ScannedDigitsModel" "text" "[C", Cond.fieldLink RX6 43 "ScannedDigitsModel" "read" "[I", Cond.constant RX6 46 (100000), Cond.methodLink RX6 47 yX6_begins, Cond.instanceMethod yX6_begins, Cond.selects RX6 yX6_begins yX6_begins, Cond.code yX6_begins cX6_begins 2 none, Cond.methodLink RX6 66 yX6_put, Cond.instanceMethod yX6_put, Cond.selects RX6 yX6_put yX6_put, Cond.code yX6_put cX6_put 4 none, Cond.methodLink RX6 70 yX6_renew, Cond.instanceMethod yX6_renew, Cond.selects RX6 yX6_renew yX6_renew, Cond.code yX6_renew cX6_renew 3 none, Cond.methodLink RL 13 yX5_setDigits, Cond.instanceMethod yX5_setDigits]
def wsL_law_r6 : List Cond := [Cond.selects RX5 yX5_setDigits yX5_setDigits, Cond.code yX5_setDigits cX5_setDigits 3 (some .int), Cond.fieldLink RX5 48 "ScannedDigits$State" "digitCount" "I", Cond.methodLink RX5 40 yX5_isWithin, Cond.static yX5_isWithin, Cond.code yX5_isWithin cX5_isWithin 3 (some .boolean), Cond.methodLink RX5 44 yX1_record, Cond.instanceMethod yX1_record, Cond.selects RX1 yX1_record yX1_record, Cond.code yX1_record cX1_record 2 none, Cond.fieldLink RX1 18 "ScannedDigits$History" "next" "I", Cond.fieldLink RX1 26 "ScannedDigits$History" "size" "I", Cond.methodLink RX1 29 Lib.Math.min.name, Cond.static Lib.Math.min.name, Cond.initialized "java/lang/Math", Cond.code Lib.Math.min.name Lib.Math.min.code 2 (some .int), Cond.methodLink RX1 22 yX3_copyFrom, Cond.instanceMethod yX3_copyFrom, Cond.selects RX3 yX3_copyFrom yX3_copyFrom, Cond.code yX3_copyFrom cX3_copyFrom 3 none, Cond.methodLink RX3 44 arraycopyName, Cond.native arraycopyName, Cond.static arraycopyName, Cond.initialized "java/lang/System"]
def wsL_law_r7 : List Cond := [Cond.fieldLink RX3 50 "ScannedDigits$State" "time" "I", Cond.fieldLink RX3 53 "ScannedDigits$State" "frame" "I", Cond.fieldLink RX3 56 "ScannedDigits$State" "frameTicks" "I", Cond.fieldLink RX3 59 "ScannedDigits$State" "testFrames" "I", Cond.fieldLink RX3 62 "ScannedDigits$State" "drivenTicks" "I", Cond.fieldLink RX3 65 "ScannedDigits$State" "current" "F", Cond.fieldLink RX3 69 "ScannedDigits$State" "peak" "F", Cond.fieldLink RX3 72 "ScannedDigits$State" "charge" "F", Cond.methodLink RX3 40 yX0_copyFrom, Cond.instanceMethod yX0_copyFrom, Cond.selects RX0 yX0_copyFrom yX0_copyFrom, Cond.code yX0_copyFrom cX0_copyFrom 2 none, Cond.methodLink RX0 46 arraycopyName, Cond.methodLink RX5 52 yX3_changeDigitCount, Cond.instanceMethod yX3_changeDigitCount, Cond.selects RX3 yX3_changeDigitCount yX3_changeDigitCount, Cond.code yX3_changeDigitCount cX3_changeDigitCount 3 none, Cond.methodLink RX3 79 yX0_makeNew, Cond.methodLink RX3 82 yX3_beginFrame, Cond.instanceMethod yX3_beginFrame, Cond.selects RX3 yX3_beginFrame yX3_beginFrame, Cond.code yX3_beginFrame cX3_beginFrame 1 none, Cond.methodLink RL 17 yX6_setDigits, Cond.instanceMethod yX6_setDigits]
def wsL_law_r8 : List Cond := [Cond.selects RX6 yX6_setDigits yX6_setDigits, Cond.code yX6_setDigits cX6_setDigits 4 (some .int), Cond.methodLink RX6 55 yX6_in, Cond.static yX6_in, Cond.code yX6_in cX6_in 3 (some .boolean), Cond.methodLink RX6 59 yX6_begin, Cond.instanceMethod yX6_begin, Cond.selects RX6 yX6_begin yX6_begin, Cond.code yX6_begin cX6_begin 2 none, Cond.methodLink RX6 80 yX6_endFrame, Cond.instanceMethod yX6_endFrame, Cond.selects RX6 yX6_endFrame yX6_endFrame, Cond.code yX6_endFrame cX6_endFrame 1 none, Cond.methodLink RX6 62 yX6_done, Cond.instanceMethod yX6_done, Cond.selects RX6 yX6_done yX6_done, Cond.code yX6_done cX6_done 3 (some .int), Cond.fieldLink RX6 51 "ScannedDigitsModel" "kept" "I", Cond.methodLink RL 18 yX5_setWidth, Cond.instanceMethod yX5_setWidth, Cond.selects RX5 yX5_setWidth yX5_setWidth, Cond.code yX5_setWidth cX5_setWidth 4 (some .int), Cond.methodLink RX5 56 yX3_find, Cond.instanceMethod yX3_find]
def wsL_law_r9 : List Cond := [Cond.selects RX3 yX3_find yX3_find, Cond.code yX3_find cX3_find 2 (some (.object "ScannedDigits$Digit")), Cond.methodLink RX5 60 yX3_changeWidth, Cond.instanceMethod yX3_changeWidth, Cond.selects RX3 yX3_changeWidth yX3_changeWidth, Cond.code yX3_changeWidth cX3_changeWidth 3 none, Cond.fieldLink RX3 85 "ScannedDigits$Digit" "width" "I", Cond.methodLink RX5 64 yX3_frameLength, Cond.instanceMethod yX3_frameLength, Cond.selects RX3 yX3_frameLength yX3_frameLength, Cond.code yX3_frameLength cX3_frameLength 1 (some .int), Cond.methodLink RX3 91 yX3_slotStart, Cond.instanceMethod yX3_slotStart, Cond.selects RX3 yX3_slotStart yX3_slotStart, Cond.code yX3_slotStart cX3_slotStart 4 (some .int), Cond.methodLink RL 22 yX6_setWidth, Cond.instanceMethod yX6_setWidth, Cond.selects RX6 yX6_setWidth yX6_setWidth, Cond.code yX6_setWidth cX6_setWidth 4 (some .int), Cond.methodLink RX6 83 yX6_noDigit, Cond.instanceMethod yX6_noDigit, Cond.selects RX6 yX6_noDigit yX6_noDigit, Cond.code yX6_noDigit cX6_noDigit 2 (some .boolean), Cond.methodLink RX6 73 yX6_of]
def wsL_law_r10 : List Cond := [Cond.instanceMethod yX6_of, Cond.selects RX6 yX6_of yX6_of, Cond.code yX6_of cX6_of 3 (some .int), Cond.methodLink RX6 87 yX6_frameLength, Cond.instanceMethod yX6_frameLength, Cond.selects RX6 yX6_frameLength yX6_frameLength, Cond.code yX6_frameLength cX6_frameLength 1 (some .int), Cond.methodLink RX6 77 yX6_beginOf, Cond.instanceMethod yX6_beginOf, Cond.selects RX6 yX6_beginOf yX6_beginOf, Cond.code yX6_beginOf cX6_beginOf 4 (some .int), Cond.methodLink RL 23 yX5_setGuard, Cond.instanceMethod yX5_setGuard, Cond.selects RX5 yX5_setGuard yX5_setGuard, Cond.code yX5_setGuard cX5_setGuard 4 (some .int), Cond.fieldLink RX5 68 "ScannedDigits$Digit" "guard" "I", Cond.methodLink RX5 73 yX0_litPart, Cond.instanceMethod yX0_litPart, Cond.selects RX0 yX0_litPart yX0_litPart, Cond.code yX0_litPart cX0_litPart 1 (some .int), Cond.methodLink RX0 52 yX0_litPartAt, Cond.instanceMethod yX0_litPartAt, Cond.selects RX0 yX0_litPartAt yX0_litPartAt, Cond.code yX0_litPartAt cX0_litPartAt 2 (some .int)]
def wsL_law_r11 : List Cond := [Cond.methodLink RL 26 yX6_setGuard, Cond.instanceMethod yX6_setGuard, Cond.selects RX6 yX6_setGuard yX6_setGuard, Cond.code yX6_setGuard cX6_setGuard 3 (some .int), Cond.methodLink RX6 91 yX6_litPart, Cond.instanceMethod yX6_litPart, Cond.selects RX6 yX6_litPart yX6_litPart, Cond.code yX6_litPart cX6_litPart 2 (some .int), Cond.methodLink RL 27 yX5_setBrightness, Cond.instanceMethod yX5_setBrightness, Cond.selects RX5 yX5_setBrightness yX5_setBrightness, Cond.code yX5_setBrightness cX5_setBrightness 4 (some .int), Cond.fieldLink RX5 76 "ScannedDigits$Digit" "brightness" "I", Cond.methodLink RL 30 yX6_setBrightness, Cond.instanceMethod yX6_setBrightness, Cond.selects RX6 yX6_setBrightness yX6_setBrightness, Cond.code yX6_setBrightness cX6_setBrightness 3 (some .int), Cond.methodLink RL 31 yX5_setPattern, Cond.instanceMethod yX5_setPattern, Cond.selects RX5 yX5_setPattern yX5_setPattern, Cond.code yX5_setPattern cX5_setPattern 5 (some .int), Cond.fieldLink RX5 79 "ScannedDigits$Digit" "pattern" "I", Cond.methodLink RL 34 yX6_setPattern, Cond.instanceMethod yX6_setPattern]
def wsL_law_r12 : List Cond := [Cond.selects RX6 yX6_setPattern yX6_setPattern, Cond.code yX6_setPattern cX6_setPattern 4 (some .int), Cond.methodLink RL 35 yX5_setGroup, Cond.instanceMethod yX5_setGroup, Cond.selects RX5 yX5_setGroup yX5_setGroup, Cond.code yX5_setGroup cX5_setGroup 5 (some .int), Cond.fieldLink RX5 82 "ScannedDigits$Digit" "group" "I", Cond.methodLink RL 38 yX6_setGroup, Cond.instanceMethod yX6_setGroup, Cond.selects RX6 yX6_setGroup yX6_setGroup, Cond.code yX6_setGroup cX6_setGroup 4 (some .int), Cond.methodLink RL 39 yX5_setBlink, Cond.instanceMethod yX5_setBlink, Cond.selects RX5 yX5_setBlink yX5_setBlink, Cond.code yX5_setBlink cX5_setBlink 4 (some .int), Cond.fieldLink RX5 85 "ScannedDigits$State" "on" "[I", Cond.fieldLink RX5 89 "ScannedDigits$State" "off" "[I", Cond.methodLink RX5 92 yX3_digitsInGroup, Cond.instanceMethod yX3_digitsInGroup, Cond.selects RX3 yX3_digitsInGroup yX3_digitsInGroup, Cond.code yX3_digitsInGroup cX3_digitsInGroup 4 (some .int), Cond.fieldLink RX3 95 "ScannedDigits$Digit" "group" "I", Cond.methodLink RL 43 yX6_setBlink, Cond.instanceMethod yX6_setBlink]
def wsL_law_r13 : List Cond := [Cond.selects RX6 yX6_setBlink yX6_setBlink, Cond.code yX6_setBlink cX6_setBlink 4 (some .int), Cond.methodLink RX6 94 yX6_digitsIn, Cond.instanceMethod yX6_digitsIn, Cond.selects RX6 yX6_digitsIn yX6_digitsIn, Cond.code yX6_digitsIn cX6_digitsIn 4 (some .int), Cond.methodLink RL 44 yX5_set, Cond.instanceMethod yX5_set, Cond.selects RX5 yX5_set yX5_set, Cond.code yX5_set cX5_set 4 (some .int), Cond.fieldLink RX5 96 "ScannedDigits" "LEAST_SETTINGS" "[I", Cond.fieldLink RX5 99 "ScannedDigits" "MOST_SETTINGS" "[I", Cond.fieldLink RX5 102 "ScannedDigits$State" "settings" "[I", Cond.methodLink RL 47 yX6_set, Cond.instanceMethod yX6_set, Cond.selects RX6 yX6_set yX6_set, Cond.code yX6_set cX6_set 4 (some .int), Cond.constant RX6 97 (1000000), Cond.methodLink RL 48 yX5_replace, Cond.instanceMethod yX5_replace, Cond.selects RX5 yX5_replace yX5_replace, Cond.code yX5_replace cX5_replace 4 (some .int), Cond.fieldLink RX5 105 "ScannedDigits$Digit" "broken" "I", Cond.methodLink RX5 108 yJ6_bitCount_0f7a4]
def wsL_law_r14 : List Cond := [Cond.static yJ6_bitCount_0f7a4, Cond.initialized RJ6, Cond.code yJ6_bitCount_0f7a4 cJ6_bitCount_0f7a4 1 (some .int), Cond.constant RJ6 265 (1431655765), Cond.constant RJ6 266 (858993459), Cond.constant RJ6 267 (252645135), Cond.methodLink RX5 113 yX0_renewSegments, Cond.methodLink RL 51 yX6_replace, Cond.instanceMethod yX6_replace, Cond.selects RX6 yX6_replace yX6_replace, Cond.code yX6_replace cX6_replace 3 (some .int), Cond.methodLink RX6 98 yX6_brokenOf, Cond.instanceMethod yX6_brokenOf, Cond.selects RX6 yX6_brokenOf yX6_brokenOf, Cond.code yX6_brokenOf cX6_brokenOf 4 (some .int), Cond.methodLink RL 52 yX5_test, Cond.instanceMethod yX5_test, Cond.selects RX5 yX5_test yX5_test, Cond.code yX5_test cX5_test 3 (some .int), Cond.fieldLink RX5 116 "ScannedDigits$State" "testFrames" "I", Cond.methodLink RL 55 yX6_test, Cond.instanceMethod yX6_test, Cond.selects RX6 yX6_test yX6_test, Cond.code yX6_test cX6_test 3 (some .int)]
def wsL_law_r15 : List Cond := [Cond.methodLink RL 56 yX5_pass, Cond.instanceMethod yX5_pass, Cond.selects RX5 yX5_pass yX5_pass, Cond.code yX5_pass cX5_pass 2 (some .int), Cond.methodLink RX5 119 yX3_runTicks, Cond.instanceMethod yX3_runTicks, Cond.selects RX3 yX3_runTicks yX3_runTicks, Cond.code yX3_runTicks cX3_runTicks 4 (some .int), Cond.methodLink RX3 123 yX3_runTick, Cond.instanceMethod yX3_runTick, Cond.selects RX3 yX3_runTick yX3_runTick, Cond.code yX3_runTick cX3_runTick 4 (some .int), Cond.fieldLink RX3 129 "ScannedDigits$Digit" "drivenTicks" "I", Cond.methodLink RX3 116 yX3_slotNow, Cond.instanceMethod yX3_slotNow, Cond.selects RX3 yX3_slotNow yX3_slotNow, Cond.code yX3_slotNow cX3_slotNow 3 (some .int), Cond.methodLink RX3 126 yX3_litNext, Cond.instanceMethod yX3_litNext, Cond.selects RX3 yX3_litNext yX3_litNext, Cond.code yX3_litNext cX3_litNext 3 (some .int), Cond.fieldLink RX3 88 "ScannedDigits$Digit" "pattern" "I", Cond.fieldLink RX3 98 "ScannedDigits$Digit" "broken" "I", Cond.methodLink RX3 120 yX3_isDriven]
def wsL_law_r16 : List Cond := [Cond.instanceMethod yX3_isDriven, Cond.selects RX3 yX3_isDriven yX3_isDriven, Cond.code yX3_isDriven cX3_isDriven 5 (some .boolean), Cond.fieldLink RX3 106 "ScannedDigits$Digit" "brightness" "I", Cond.methodLink RX3 109 yX0_litPartAt, Cond.methodLink RX3 112 yX3_isGroupOn, Cond.instanceMethod yX3_isGroupOn, Cond.selects RX3 yX3_isGroupOn yX3_isGroupOn, Cond.code yX3_isGroupOn cX3_isGroupOn 3 (some .boolean), Cond.methodLink RX3 130 yX0_runTick, Cond.instanceMethod yX0_runTick, Cond.selects RX0 yX0_runTick yX0_runTick, Cond.code yX0_runTick cX0_runTick 5 none, Cond.static yX5_glowUnlit, Cond.code yX5_glowUnlit cX5_glowUnlit 3 (some .int), Cond.methodLink RX5 234 Lib.Math.max.name, Cond.static Lib.Math.max.name, Cond.code Lib.Math.max.name Lib.Math.max.code 2 (some .int), Cond.static yX5_glowLit, Cond.code yX5_glowLit cX5_glowLit 2 (some .int), Cond.methodLink RX5 240 Lib.Math.min.name, Cond.methodLink RX3 101 yJ6_bitCount_0f7a4, Cond.methodLink RX3 133 yX3_runCurrent, Cond.instanceMethod yX3_runCurrent]
def wsL_law_r17 : List Cond := [Cond.selects RX3 yX3_runCurrent yX3_runCurrent, Cond.code yX3_runCurrent cX3_runCurrent 2 none, Cond.constantFloat RX3 140 (1075838976), Cond.constantFloat RX3 141 (1040187392), Cond.constantFloat RX3 142 (981668463), Cond.methodLink RX3 137 yX3_frameLength, Cond.methodLink RL 59 yX6_pass, Cond.instanceMethod yX6_pass, Cond.selects RX6 yX6_pass yX6_pass, Cond.code yX6_pass cX6_pass 4 (some .int), Cond.methodLink RX6 126 yX6_tick, Cond.instanceMethod yX6_tick, Cond.selects RX6 yX6_tick yX6_tick, Cond.code yX6_tick cX6_tick 7 (some .int), Cond.constantFloat RX6 123 (1075838976), Cond.constantFloat RX6 124 (1040187392), Cond.constantFloat RX6 125 (981668463), Cond.methodLink RX6 104 yX6_slotNow, Cond.instanceMethod yX6_slotNow, Cond.selects RX6 yX6_slotNow yX6_slotNow, Cond.code yX6_slotNow cX6_slotNow 2 (some .int), Cond.methodLink RX6 116 yX6_litNow, Cond.instanceMethod yX6_litNow, Cond.selects RX6 yX6_litNow yX6_litNow]
def wsL_law_r18 : List Cond := [Cond.code yX6_litNow cX6_litNow 3 (some .int), Cond.methodLink RX6 107 yX6_isDriven, Cond.instanceMethod yX6_isDriven, Cond.selects RX6 yX6_isDriven yX6_isDriven, Cond.code yX6_isDriven cX6_isDriven 3 (some .boolean), Cond.methodLink RX6 101 yX6_isOn, Cond.instanceMethod yX6_isOn, Cond.selects RX6 yX6_isOn yX6_isOn, Cond.code yX6_isOn cX6_isOn 3 (some .boolean), Cond.methodLink RX6 119 yX6_light, Cond.instanceMethod yX6_light, Cond.selects RX6 yX6_light yX6_light, Cond.code yX6_light cX6_light 5 none, Cond.methodLink RX6 110 yX6_brighter, Cond.static yX6_brighter, Cond.code yX6_brighter cX6_brighter 3 (some .int), Cond.methodLink RX6 113 yX6_darker, Cond.instanceMethod yX6_darker, Cond.selects RX6 yX6_darker yX6_darker, Cond.code yX6_darker cX6_darker 3 (some .int), Cond.methodLink RL 60 yX5_passFrames, Cond.instanceMethod yX5_passFrames, Cond.selects RX5 yX5_passFrames yX5_passFrames, Cond.code yX5_passFrames cX5_passFrames 3 (some .int)]
def wsL_law_r19 : List Cond := [Cond.fieldLink RX5 122 "ScannedDigits$State" "frameTicks" "I", Cond.fieldLink RX5 125 "ScannedDigits$State" "time" "I", Cond.methodLink RL 63 yX6_passFrames, Cond.instanceMethod yX6_passFrames, Cond.selects RX6 yX6_passFrames yX6_passFrames, Cond.code yX6_passFrames cX6_passFrames 4 (some .int), Cond.methodLink RL 64 yX5_type, Cond.instanceMethod yX5_type, Cond.selects RX5 yX5_type yX5_type, Cond.code yX5_type cX5_type 2 (some .int), Cond.fieldLink RX5 136 "ScannedDigits$Text" "length" "I", Cond.methodLink RX5 128 yX4_isFull, Cond.instanceMethod yX4_isFull, Cond.selects RX4 yX4_isFull yX4_isFull, Cond.code yX4_isFull cX4_isFull 1 (some .boolean), Cond.fieldLink RX4 19 "ScannedDigits$Text" "length" "I", Cond.methodLink RX5 132 yX4_append, Cond.instanceMethod yX4_append, Cond.selects RX4 yX4_append yX4_append, Cond.code yX4_append cX4_append 2 none, Cond.methodLink RL 68 yX6_type, Cond.instanceMethod yX6_type, Cond.selects RX6 yX6_type yX6_type, Cond.code yX6_type cX6_type 2 (some .int)]
def wsL_law_r20 : List Cond := [Cond.fieldLink RX6 129 "ScannedDigitsModel" "typed" "I", Cond.methodLink RL 69 yX5_clearText, Cond.instanceMethod yX5_clearText, Cond.selects RX5 yX5_clearText yX5_clearText, Cond.code yX5_clearText cX5_clearText 2 (some .int), Cond.methodLink RL 73 yX6_clearText, Cond.instanceMethod yX6_clearText, Cond.selects RX6 yX6_clearText yX6_clearText, Cond.code yX6_clearText cX6_clearText 2 (some .int), Cond.methodLink RL 74 yX5_show, Cond.instanceMethod yX5_show, Cond.selects RX5 yX5_show yX5_show, Cond.code yX5_show cX5_show 2 (some .int), Cond.fieldLink RX5 142 "ScannedDigits$Text" "patterns" "[I", Cond.fieldLink RX5 149 "ScannedDigits$Text" "needed" "I", Cond.methodLink RX5 139 yX4_layOut, Cond.instanceMethod yX4_layOut, Cond.selects RX4 yX4_layOut yX4_layOut, Cond.code yX4_layOut cX4_layOut 6 (some .int), Cond.fieldLink RX4 23 "ScannedDigits$Text" "needed" "I", Cond.static yX5_patternOf, Cond.code yX5_patternOf cX5_patternOf 2 (some .int), Cond.fieldLink RX5 230 "ScannedDigits" "CHARACTERS" "[C", Cond.fieldLink RX5 227 "ScannedDigits" "PATTERNS" "[I"]
def wsL_law_r21 : List Cond := [Cond.methodLink RX5 145 yX3_takePatterns, Cond.instanceMethod yX3_takePatterns, Cond.selects RX3 yX3_takePatterns yX3_takePatterns, Cond.code yX3_takePatterns cX3_takePatterns 3 none, Cond.methodLink RL 77 yX6_show, Cond.instanceMethod yX6_show, Cond.selects RX6 yX6_show yX6_show, Cond.code yX6_show cX6_show 6 (some .int), Cond.methodLink RX6 132 yX6_patternOf, Cond.static yX6_patternOf, Cond.code yX6_patternOf cX6_patternOf 1 (some .int), Cond.methodLink RL 78 yX5_undo, Cond.instanceMethod yX5_undo, Cond.selects RX5 yX5_undo yX5_undo, Cond.code yX5_undo cX5_undo 1 (some .int), Cond.fieldLink RX5 152 "ScannedDigits$History" "size" "I", Cond.methodLink RX5 155 yX1_takeBack, Cond.instanceMethod yX1_takeBack, Cond.selects RX1 yX1_takeBack yX1_takeBack, Cond.code yX1_takeBack cX1_takeBack 2 none, Cond.methodLink RL 81 yX6_undo, Cond.instanceMethod yX6_undo, Cond.selects RX6 yX6_undo yX6_undo, Cond.code yX6_undo cX6_undo 2 (some .int)]
def wsL_law_r22 : List Cond := [Cond.methodLink RL 82 yX5_keep, Cond.instanceMethod yX5_keep, Cond.selects RX5 yX5_keep yX5_keep, Cond.code yX5_keep cX5_keep 2 (some .int), Cond.fieldLink RX5 158 "ScannedDigits$Snapshot" "state" "LScannedDigits$State;", Cond.fieldLink RX5 164 "ScannedDigits$Snapshot" "isTaken" "Z", Cond.methodLink RX5 161 yX3_copyFrom, Cond.methodLink RL 85 yX6_keep, Cond.instanceMethod yX6_keep, Cond.selects RX6 yX6_keep yX6_keep, Cond.code yX6_keep cX6_keep 3 (some .int), Cond.methodLink RL 86 yX5_restore, Cond.instanceMethod yX5_restore, Cond.selects RX5 yX5_restore yX5_restore, Cond.code yX5_restore cX5_restore 2 (some .int), Cond.methodLink RL 89 yX6_restore, Cond.instanceMethod yX6_restore, Cond.selects RX6 yX6_restore yX6_restore, Cond.code yX6_restore cX6_restore 3 (some .int), Cond.methodLink RL 90 yX5_digit, Cond.instanceMethod yX5_digit, Cond.selects RX5 yX5_digit yX5_digit, Cond.code yX5_digit cX5_digit 4 (some .int), Cond.fieldLink RX5 168 "ScannedDigits$Digit" "width" "I"]
def wsL_law_r23 : List Cond := [Cond.fieldLink RX5 183 "ScannedDigits$Digit" "drivenTicks" "I", Cond.methodLink RX5 171 yX3_slotStart, Cond.methodLink RX5 174 yX0_seen, Cond.instanceMethod yX0_seen, Cond.selects RX0 yX0_seen yX0_seen, Cond.code yX0_seen cX0_seen 4 (some .int), Cond.methodLink RX5 177 yX0_glowSum, Cond.instanceMethod yX0_glowSum, Cond.selects RX0 yX0_glowSum yX0_glowSum, Cond.code yX0_glowSum cX0_glowSum 3 (some .int), Cond.methodLink RX5 180 yX5_characterOf, Cond.static yX5_characterOf, Cond.code yX5_characterOf cX5_characterOf 2 (some .int), Cond.methodLink RL 93 yX6_digit, Cond.instanceMethod yX6_digit, Cond.selects RX6 yX6_digit yX6_digit, Cond.code yX6_digit cX6_digit 3 (some .int), Cond.methodLink RX6 136 yX6_seenOf, Cond.instanceMethod yX6_seenOf, Cond.selects RX6 yX6_seenOf yX6_seenOf, Cond.code yX6_seenOf cX6_seenOf 4 (some .int), Cond.methodLink RX6 139 yX6_glowOf, Cond.instanceMethod yX6_glowOf, Cond.selects RX6 yX6_glowOf yX6_glowOf]
def wsL_law_r24 : List Cond := [Cond.code yX6_glowOf cX6_glowOf 4 (some .int), Cond.methodLink RX6 142 yX6_charOf, Cond.instanceMethod yX6_charOf, Cond.selects RX6 yX6_charOf yX6_charOf, Cond.code yX6_charOf cX6_charOf 3 (some .int), Cond.methodLink RL 94 yX5_segment, Cond.instanceMethod yX5_segment, Cond.selects RX5 yX5_segment yX5_segment, Cond.code yX5_segment cX5_segment 5 (some .int), Cond.fieldLink RX5 186 "ScannedDigits$Digit" "glow" "[I", Cond.fieldLink RX5 189 "ScannedDigits$Digit" "use" "[I", Cond.methodLink RL 97 yX6_segment, Cond.instanceMethod yX6_segment, Cond.selects RX6 yX6_segment yX6_segment, Cond.code yX6_segment cX6_segment 4 (some .int), Cond.methodLink RL 98 yX5_litIn, Cond.instanceMethod yX5_litIn, Cond.selects RX5 yX5_litIn yX5_litIn, Cond.code yX5_litIn cX5_litIn 3 (some .int), Cond.methodLink RX5 192 yX3_slotNow, Cond.methodLink RX5 195 yX3_litNext, Cond.methodLink RL 101 yX6_litIn, Cond.instanceMethod yX6_litIn, Cond.selects RX6 yX6_litIn yX6_litIn]
def wsL_law_r25 : List Cond := [Cond.code yX6_litIn cX6_litIn 5 (some .int), Cond.methodLink RX6 145 yX6_goBack, Cond.instanceMethod yX6_goBack, Cond.selects RX6 yX6_goBack yX6_goBack, Cond.code yX6_goBack cX6_goBack 2 none, Cond.methodLink RL 102 yX5_steadyGlow, Cond.instanceMethod yX5_steadyGlow, Cond.selects RX5 yX5_steadyGlow yX5_steadyGlow, Cond.code yX5_steadyGlow cX5_steadyGlow 4 (some .int), Cond.methodLink RX5 198 yX5_glowOfFrames, Cond.static yX5_glowOfFrames, Cond.code yX5_glowOfFrames cX5_glowOfFrames 7 (some .int), Cond.methodLink RX5 243 yX5_glowLit, Cond.methodLink RX5 246 yX5_glowUnlit, Cond.methodLink RL 105 yX6_steadyGlow, Cond.instanceMethod yX6_steadyGlow, Cond.selects RX6 yX6_steadyGlow yX6_steadyGlow, Cond.code yX6_steadyGlow cX6_steadyGlow 8 (some .int), Cond.methodLink RL 106 yX5_current, Cond.instanceMethod yX5_current, Cond.selects RX5 yX5_current yX5_current, Cond.code yX5_current cX5_current 2 (some .float), Cond.fieldLink RX5 202 "ScannedDigits$State" "current" "F", Cond.fieldLink RX5 206 "ScannedDigits$State" "peak" "F"]
def wsL_law_r26 : List Cond := [Cond.fieldLink RX5 209 "ScannedDigits$State" "charge" "F", Cond.methodLink RL 110 yX6_current, Cond.instanceMethod yX6_current, Cond.selects RX6 yX6_current yX6_current, Cond.code yX6_current cX6_current 2 (some .float), Cond.methodLink RL 111 yX5_thousandths, Cond.instanceMethod yX5_thousandths, Cond.selects RX5 yX5_thousandths yX5_thousandths, Cond.code yX5_thousandths cX5_thousandths 2 (some .int), Cond.constantFloat RX5 215 (1148846080), Cond.methodLink RX5 212 yX5_current, Cond.methodLink RL 114 yX6_thousandths, Cond.instanceMethod yX6_thousandths, Cond.selects RX6 yX6_thousandths yX6_thousandths, Cond.code yX6_thousandths cX6_thousandths 2 (some .int), Cond.constantFloat RX6 148 (1148846080), Cond.methodLink RL 115 yX5_duty, Cond.instanceMethod yX5_duty, Cond.selects RX5 yX5_duty yX5_duty, Cond.code yX5_duty cX5_duty 3 (some .float), Cond.methodLink RL 118 yX6_duty, Cond.instanceMethod yX6_duty, Cond.selects RX6 yX6_duty yX6_duty, Cond.code yX6_duty cX6_duty 2 (some .float)]
def wsL_law_r27 : List Cond := [Cond.methodLink RL 119 yX5_count, Cond.instanceMethod yX5_count, Cond.selects RX5 yX5_count yX5_count, Cond.code yX5_count cX5_count 2 (some .int), Cond.fieldLink RX5 216 "ScannedDigits$State" "frame" "I", Cond.fieldLink RX5 219 "ScannedDigits$State" "drivenTicks" "I", Cond.methodLink RX5 220 yX3_brokenSegments, Cond.instanceMethod yX3_brokenSegments, Cond.selects RX3 yX3_brokenSegments yX3_brokenSegments, Cond.code yX3_brokenSegments cX3_brokenSegments 3 (some .int), Cond.methodLink RL 122 yX6_count, Cond.instanceMethod yX6_count, Cond.selects RX6 yX6_count yX6_count, Cond.code yX6_count cX6_count 2 (some .int), Cond.methodLink RX6 149 yX6_broken, Cond.instanceMethod yX6_broken, Cond.selects RX6 yX6_broken yX6_broken, Cond.code yX6_broken cX6_broken 3 (some .int), Cond.methodLink RL 123 yX5_group, Cond.instanceMethod yX5_group, Cond.selects RX5 yX5_group yX5_group, Cond.code yX5_group cX5_group 3 (some .int), Cond.methodLink RX5 223 yX3_isGroupOn, Cond.methodLink RL 126 yX6_group]
def wsL_law_r28 : List Cond := [Cond.instanceMethod yX6_group, Cond.selects RX6 yX6_group yX6_group, Cond.code yX6_group cX6_group 3 (some .int)]
def wsL_law : List Cond := (wsL_law_r1 ++ (wsL_law_r2 ++ (wsL_law_r3 ++ (wsL_law_r4 ++ (wsL_law_r5 ++ (wsL_law_r6 ++ (wsL_law_r7 ++ (wsL_law_r8 ++ (wsL_law_r9 ++ (wsL_law_r10 ++ (wsL_law_r11 ++ (wsL_law_r12 ++ (wsL_law_r13 ++ (wsL_law_r14 ++ (wsL_law_r15 ++ (wsL_law_r16 ++ (wsL_law_r17 ++ (wsL_law_r18 ++ (wsL_law_r19 ++ (wsL_law_r20 ++ (wsL_law_r21 ++ (wsL_law_r22 ++ (wsL_law_r23 ++ (wsL_law_r24 ++ (wsL_law_r25 ++ (wsL_law_r26 ++ (wsL_law_r27 ++ wsL_law_r28))))))))))))))))))))))))))) ++ wsX50 ++ wsX60 ++ wsX30 ++ wsX10 ++ wsX40 ++ wsX20 ++ wsX00 ++ ([] : List Cond)
theorem inJx8e188 : ∀ w ∈ wsJx8e1880, w ∈ lw_tbl := by decide +kernel
theorem inJ6 : ∀ w ∈ wsJ60, w ∈ lw_tbl := by decide +kernel
theorem inJ9 : ∀ w ∈ wsJ90, w ∈ lw_tbl := by decide +kernel
theorem inJ10 : ∀ w ∈ wsJ100, w ∈ lw_tbl := by decide +kernel
set_option maxRecDepth 20000 in
theorem ggX0_init_X0_makeNew : GoodIn wsX0_init wsX0_makeNew := goodIn_r _ [11, 12, 13, 14, 15, 16, 17, 18, 19, 20, 10, 21, 22, 5, 6, 23, 24, 25, 26, 27, 28, 29, 30, 31] (by decide +kernel) (by decide +kernel)
set_option maxRecDepth 20000 in
theorem gX0_init_X0_makeNew : GoodIn wsX0_init (wsV RX0 18 RX0 yX0_makeNew wsX0_makeNew) := goodIn_app (goodIn_of _ (by decide +kernel)) ggX0_init_X0_makeNew
theorem dX0_init_0 : decode cX0_init 0 = .ok (.aload_n 0, 1) := by decide +kernel
theorem dX0_init_1 : decode cX0_init 1 = .ok (.invokespecial 3, 3) := by decide +kernel
theorem dX0_init_4 : decode cX0_init 4 = .ok (.aload_n 0, 1) := by decide +kernel
theorem dX0_init_5 : decode cX0_init 5 = .ok (.bipush 8, 2) := by decide +kernel
theorem dX0_init_7 : decode cX0_init 7 = .ok (.newarray .int, 2) := by decide +kernel
theorem dX0_init_9 : decode cX0_init 9 = .ok (.putfield 9, 3) := by decide +kernel
theorem dX0_init_12 : decode cX0_init 12 = .ok (.aload_n 0, 1) := by decide +kernel
theorem dX0_init_13 : decode cX0_init 13 = .ok (.bipush 8, 2) := by decide +kernel
theorem dX0_init_15 : decode cX0_init 15 = .ok (.newarray .int, 2) := by decide +kernel
theorem dX0_init_17 : decode cX0_init 17 = .ok (.putfield 15, 3) := by decide +kernel
theorem dX0_init_20 : decode cX0_init 20 = .ok (.aload_n 0, 1) := by decide +kernel
theorem dX0_init_21 : decode cX0_init 21 = .ok (.invokevirtual 18, 3) := by decide +kernel
theorem dX0_init_24 : decode cX0_init 24 = .ok (.return_, 1) := by decide +kernel
set_option maxRecDepth 20000 in
theorem ggX0_makeNew_X0_renewSegments : GoodIn wsX0_makeNew wsX0_renewSegments := goodIn_r _ [11, 12, 13, 14, 15, 16, 17, 18, 19, 20, 21, 22, 23] (by decide +kernel) (by decide +kernel)
set_option maxRecDepth 20000 in
theorem gX0_makeNew_X0_renewSegments : GoodIn wsX0_makeNew (wsV RX0 40 RX0 yX0_renewSegments wsX0_renewSegments) := goodIn_app (goodIn_of _ (by decide +kernel)) ggX0_makeNew_X0_renewSegments
theorem dX0_makeNew_0 : decode cX0_makeNew 0 = .ok (.aload_n 0, 1) := by decide +kernel
theorem dX0_makeNew_1 : decode cX0_makeNew 1 = .ok (.bipush 10, 2) := by decide +kernel
theorem dX0_makeNew_3 : decode cX0_makeNew 3 = .ok (.putfield 21, 3) := by decide +kernel
theorem dX0_makeNew_6 : decode cX0_makeNew 6 = .ok (.aload_n 0, 1) := by decide +kernel
theorem dX0_makeNew_7 : decode cX0_makeNew 7 = .ok (.iconst 1, 1) := by decide +kernel
theorem dX0_makeNew_8 : decode cX0_makeNew 8 = .ok (.putfield 25, 3) := by decide +kernel
theorem dX0_makeNew_11 : decode cX0_makeNew 11 = .ok (.aload_n 0, 1) := by decide +kernel
theorem dX0_makeNew_12 : decode cX0_makeNew 12 = .ok (.bipush 15, 2) := by decide +kernel
theorem dX0_makeNew_14 : decode cX0_makeNew 14 = .ok (.putfield 28, 3) := by decide +kernel
theorem dX0_makeNew_17 : decode cX0_makeNew 17 = .ok (.aload_n 0, 1) := by decide +kernel
theorem dX0_makeNew_18 : decode cX0_makeNew 18 = .ok (.iconst 0, 1) := by decide +kernel
theorem dX0_makeNew_19 : decode cX0_makeNew 19 = .ok (.putfield 31, 3) := by decide +kernel
theorem dX0_makeNew_22 : decode cX0_makeNew 22 = .ok (.aload_n 0, 1) := by decide +kernel
theorem dX0_makeNew_23 : decode cX0_makeNew 23 = .ok (.iconst 0, 1) := by decide +kernel
theorem dX0_makeNew_24 : decode cX0_makeNew 24 = .ok (.putfield 34, 3) := by decide +kernel
theorem dX0_makeNew_27 : decode cX0_makeNew 27 = .ok (.aload_n 0, 1) := by decide +kernel
theorem dX0_makeNew_28 : decode cX0_makeNew 28 = .ok (.iconst 0, 1) := by decide +kernel
theorem dX0_makeNew_29 : decode cX0_makeNew 29 = .ok (.putfield 37, 3) := by decide +kernel
theorem dX0_makeNew_32 : decode cX0_makeNew 32 = .ok (.aload_n 0, 1) := by decide +kernel
theorem dX0_makeNew_33 : decode cX0_makeNew 33 = .ok (.invokevirtual 40, 3) := by decide +kernel
theorem dX0_makeNew_36 : decode cX0_makeNew 36 = .ok (.return_, 1) := by decide +kernel
theorem dX0_renewSegments_0 : decode cX0_renewSegments 0 = .ok (.aload_n 0, 1) := by decide +kernel
theorem dX0_renewSegments_1 : decode cX0_renewSegments 1 = .ok (.iconst 0, 1) := by decide +kernel
theorem dX0_renewSegments_2 : decode cX0_renewSegments 2 = .ok (.putfield 43, 3) := by decide +kernel
theorem dX0_renewSegments_5 : decode cX0_renewSegments 5 = .ok (.iconst 0, 1) := by decide +kernel
theorem dX0_renewSegments_6 : decode cX0_renewSegments 6 = .ok (.istore_n 1, 1) := by decide +kernel
theorem dX0_renewSegments_7 : decode cX0_renewSegments 7 = .ok (.iload_n 1, 1) := by decide +kernel
theorem dX0_renewSegments_8 : decode cX0_renewSegments 8 = .ok (.bipush 8, 2) := by decide +kernel
theorem dX0_renewSegments_10 : decode cX0_renewSegments 10 = .ok (.if_icmp .ge 23, 3) := by decide +kernel
theorem dX0_renewSegments_13 : decode cX0_renewSegments 13 = .ok (.aload_n 0, 1) := by decide +kernel
theorem dX0_renewSegments_14 : decode cX0_renewSegments 14 = .ok (.getfield 9, 3) := by decide +kernel
theorem dX0_renewSegments_17 : decode cX0_renewSegments 17 = .ok (.iload_n 1, 1) := by decide +kernel
theorem dX0_renewSegments_18 : decode cX0_renewSegments 18 = .ok (.iconst 0, 1) := by decide +kernel
theorem dX0_renewSegments_19 : decode cX0_renewSegments 19 = .ok (.iastore, 1) := by decide +kernel
theorem dX0_renewSegments_20 : decode cX0_renewSegments 20 = .ok (.aload_n 0, 1) := by decide +kernel
theorem dX0_renewSegments_21 : decode cX0_renewSegments 21 = .ok (.getfield 15, 3) := by decide +kernel
theorem dX0_renewSegments_24 : decode cX0_renewSegments 24 = .ok (.iload_n 1, 1) := by decide +kernel
theorem dX0_renewSegments_25 : decode cX0_renewSegments 25 = .ok (.iconst 0, 1) := by decide +kernel
theorem dX0_renewSegments_26 : decode cX0_renewSegments 26 = .ok (.iastore, 1) := by decide +kernel
theorem dX0_renewSegments_27 : decode cX0_renewSegments 27 = .ok (.iinc 1 1, 3) := by decide +kernel
theorem dX0_renewSegments_30 : decode cX0_renewSegments 30 = .ok (.goto (-23), 3) := by decide +kernel
theorem dX0_renewSegments_33 : decode cX0_renewSegments 33 = .ok (.return_, 1) := by decide +kernel
theorem dX0_copyFrom_0 : decode cX0_copyFrom 0 = .ok (.aload_n 0, 1) := by decide +kernel
theorem dX0_copyFrom_1 : decode cX0_copyFrom 1 = .ok (.aload_n 1, 1) := by decide +kernel
theorem dX0_copyFrom_2 : decode cX0_copyFrom 2 = .ok (.getfield 21, 3) := by decide +kernel
theorem dX0_copyFrom_5 : decode cX0_copyFrom 5 = .ok (.putfield 21, 3) := by decide +kernel
theorem dX0_copyFrom_8 : decode cX0_copyFrom 8 = .ok (.aload_n 0, 1) := by decide +kernel
theorem dX0_copyFrom_9 : decode cX0_copyFrom 9 = .ok (.aload_n 1, 1) := by decide +kernel
theorem dX0_copyFrom_10 : decode cX0_copyFrom 10 = .ok (.getfield 25, 3) := by decide +kernel
theorem dX0_copyFrom_13 : decode cX0_copyFrom 13 = .ok (.putfield 25, 3) := by decide +kernel
theorem dX0_copyFrom_16 : decode cX0_copyFrom 16 = .ok (.aload_n 0, 1) := by decide +kernel
theorem dX0_copyFrom_17 : decode cX0_copyFrom 17 = .ok (.aload_n 1, 1) := by decide +kernel
theorem dX0_copyFrom_18 : decode cX0_copyFrom 18 = .ok (.getfield 28, 3) := by decide +kernel
theorem dX0_copyFrom_21 : decode cX0_copyFrom 21 = .ok (.putfield 28, 3) := by decide +kernel
theorem dX0_copyFrom_24 : decode cX0_copyFrom 24 = .ok (.aload_n 0, 1) := by decide +kernel
theorem dX0_copyFrom_25 : decode cX0_copyFrom 25 = .ok (.aload_n 1, 1) := by decide +kernel
theorem dX0_copyFrom_26 : decode cX0_copyFrom 26 = .ok (.getfield 31, 3) := by decide +kernel
theorem dX0_copyFrom_29 : decode cX0_copyFrom 29 = .ok (.putfield 31, 3) := by decide +kernel
theorem dX0_copyFrom_32 : decode cX0_copyFrom 32 = .ok (.aload_n 0, 1) := by decide +kernel
theorem dX0_copyFrom_33 : decode cX0_copyFrom 33 = .ok (.aload_n 1, 1) := by decide +kernel
theorem dX0_copyFrom_34 : decode cX0_copyFrom 34 = .ok (.getfield 34, 3) := by decide +kernel
theorem dX0_copyFrom_37 : decode cX0_copyFrom 37 = .ok (.putfield 34, 3) := by decide +kernel
theorem dX0_copyFrom_40 : decode cX0_copyFrom 40 = .ok (.aload_n 0, 1) := by decide +kernel
theorem dX0_copyFrom_41 : decode cX0_copyFrom 41 = .ok (.aload_n 1, 1) := by decide +kernel
theorem dX0_copyFrom_42 : decode cX0_copyFrom 42 = .ok (.getfield 37, 3) := by decide +kernel
theorem dX0_copyFrom_45 : decode cX0_copyFrom 45 = .ok (.putfield 37, 3) := by decide +kernel
theorem dX0_copyFrom_48 : decode cX0_copyFrom 48 = .ok (.aload_n 0, 1) := by decide +kernel
theorem dX0_copyFrom_49 : decode cX0_copyFrom 49 = .ok (.aload_n 1, 1) := by decide +kernel
theorem dX0_copyFrom_50 : decode cX0_copyFrom 50 = .ok (.getfield 43, 3) := by decide +kernel
theorem dX0_copyFrom_53 : decode cX0_copyFrom 53 = .ok (.putfield 43, 3) := by decide +kernel
theorem dX0_copyFrom_56 : decode cX0_copyFrom 56 = .ok (.aload_n 1, 1) := by decide +kernel
theorem dX0_copyFrom_57 : decode cX0_copyFrom 57 = .ok (.getfield 9, 3) := by decide +kernel
theorem dX0_copyFrom_60 : decode cX0_copyFrom 60 = .ok (.iconst 0, 1) := by decide +kernel
theorem dX0_copyFrom_61 : decode cX0_copyFrom 61 = .ok (.aload_n 0, 1) := by decide +kernel
theorem dX0_copyFrom_62 : decode cX0_copyFrom 62 = .ok (.getfield 9, 3) := by decide +kernel
theorem dX0_copyFrom_65 : decode cX0_copyFrom 65 = .ok (.iconst 0, 1) := by decide +kernel
theorem dX0_copyFrom_66 : decode cX0_copyFrom 66 = .ok (.bipush 8, 2) := by decide +kernel
theorem dX0_copyFrom_68 : decode cX0_copyFrom 68 = .ok (.invokestatic 46, 3) := by decide +kernel
theorem dX0_copyFrom_71 : decode cX0_copyFrom 71 = .ok (.aload_n 1, 1) := by decide +kernel
theorem dX0_copyFrom_72 : decode cX0_copyFrom 72 = .ok (.getfield 15, 3) := by decide +kernel
theorem dX0_copyFrom_75 : decode cX0_copyFrom 75 = .ok (.iconst 0, 1) := by decide +kernel
theorem dX0_copyFrom_76 : decode cX0_copyFrom 76 = .ok (.aload_n 0, 1) := by decide +kernel
theorem dX0_copyFrom_77 : decode cX0_copyFrom 77 = .ok (.getfield 15, 3) := by decide +kernel
theorem dX0_copyFrom_80 : decode cX0_copyFrom 80 = .ok (.iconst 0, 1) := by decide +kernel
theorem dX0_copyFrom_81 : decode cX0_copyFrom 81 = .ok (.bipush 8, 2) := by decide +kernel
theorem dX0_copyFrom_83 : decode cX0_copyFrom 83 = .ok (.invokestatic 46, 3) := by decide +kernel
theorem dX0_copyFrom_86 : decode cX0_copyFrom 86 = .ok (.return_, 1) := by decide +kernel
set_option maxRecDepth 20000 in
theorem ggX0_litPart_X0_litPartAt : GoodIn wsX0_litPart wsX0_litPartAt := goodIn_r _ [6, 7, 8, 9, 10, 11, 12, 13, 14, 15, 16, 17] (by decide +kernel) (by decide +kernel)
set_option maxRecDepth 20000 in
theorem gX0_litPart_X0_litPartAt : GoodIn wsX0_litPart (wsV RX0 52 RX0 yX0_litPartAt wsX0_litPartAt) := goodIn_app (goodIn_of _ (by decide +kernel)) ggX0_litPart_X0_litPartAt
theorem dX0_litPart_0 : decode cX0_litPart 0 = .ok (.aload_n 0, 1) := by decide +kernel
theorem dX0_litPart_1 : decode cX0_litPart 1 = .ok (.aload_n 0, 1) := by decide +kernel
theorem dX0_litPart_2 : decode cX0_litPart 2 = .ok (.getfield 28, 3) := by decide +kernel
theorem dX0_litPart_5 : decode cX0_litPart 5 = .ok (.invokevirtual 52, 3) := by decide +kernel
theorem dX0_litPart_8 : decode cX0_litPart 8 = .ok (.ireturn, 1) := by decide +kernel
theorem dX0_litPartAt_0 : decode cX0_litPartAt 0 = .ok (.aload_n 0, 1) := by decide +kernel
theorem dX0_litPartAt_1 : decode cX0_litPartAt 1 = .ok (.getfield 21, 3) := by decide +kernel
theorem dX0_litPartAt_4 : decode cX0_litPartAt 4 = .ok (.aload_n 0, 1) := by decide +kernel
theorem dX0_litPartAt_5 : decode cX0_litPartAt 5 = .ok (.getfield 25, 3) := by decide +kernel
theorem dX0_litPartAt_8 : decode cX0_litPartAt 8 = .ok (.isub, 1) := by decide +kernel
theorem dX0_litPartAt_9 : decode cX0_litPartAt 9 = .ok (.iload_n 1, 1) := by decide +kernel
theorem dX0_litPartAt_10 : decode cX0_litPartAt 10 = .ok (.imul, 1) := by decide +kernel
theorem dX0_litPartAt_11 : decode cX0_litPartAt 11 = .ok (.bipush 15, 2) := by decide +kernel
theorem dX0_litPartAt_13 : decode cX0_litPartAt 13 = .ok (.idiv, 1) := by decide +kernel
theorem dX0_litPartAt_14 : decode cX0_litPartAt 14 = .ok (.ireturn, 1) := by decide +kernel
set_option maxRecDepth 20000 in
theorem ggX0_runTick_X5_glowUnlit : GoodIn wsX0_runTick wsX5_glowUnlit := goodIn_r _ [6, 7, 8, 9, 10] (by decide +kernel) (by decide +kernel)
set_option maxRecDepth 20000 in
theorem gX0_runTick_X5_glowUnlit_n56 : GoodIn wsX0_runTick (wsX5_glowUnlit) := ggX0_runTick_X5_glowUnlit
set_option maxRecDepth 20000 in
theorem ggX0_runTick_X5_glowLit : GoodIn wsX0_runTick wsX5_glowLit := goodIn_r _ [12, 7, 8, 9, 10, 13, 14, 15] (by decide +kernel) (by decide +kernel)
set_option maxRecDepth 20000 in
theorem gX0_runTick_X5_glowLit_n60 : GoodIn wsX0_runTick (wsX5_glowLit) := ggX0_runTick_X5_glowLit
theorem dX0_runTick_0 : decode cX0_runTick 0 = .ok (.iconst 0, 1) := by decide +kernel
theorem dX0_runTick_1 : decode cX0_runTick 1 = .ok (.istore 4, 2) := by decide +kernel
theorem dX0_runTick_3 : decode cX0_runTick 3 = .ok (.iload 4, 2) := by decide +kernel
theorem dX0_runTick_5 : decode cX0_runTick 5 = .ok (.bipush 8, 2) := by decide +kernel
theorem dX0_runTick_7 : decode cX0_runTick 7 = .ok (.if_icmp .ge 91, 3) := by decide +kernel
theorem dX0_runTick_10 : decode cX0_runTick 10 = .ok (.iload_n 1, 1) := by decide +kernel
theorem dX0_runTick_11 : decode cX0_runTick 11 = .ok (.iload 4, 2) := by decide +kernel
theorem dX0_runTick_13 : decode cX0_runTick 13 = .ok (.ishr, 1) := by decide +kernel
theorem dX0_runTick_14 : decode cX0_runTick 14 = .ok (.iconst 1, 1) := by decide +kernel
theorem dX0_runTick_15 : decode cX0_runTick 15 = .ok (.iand, 1) := by decide +kernel
theorem dX0_runTick_16 : decode cX0_runTick 16 = .ok (.ifCond .ne 24, 3) := by decide +kernel
theorem dX0_runTick_19 : decode cX0_runTick 19 = .ok (.aload_n 0, 1) := by decide +kernel
theorem dX0_runTick_20 : decode cX0_runTick 20 = .ok (.getfield 9, 3) := by decide +kernel
theorem dX0_runTick_23 : decode cX0_runTick 23 = .ok (.iload 4, 2) := by decide +kernel
theorem dX0_runTick_25 : decode cX0_runTick 25 = .ok (.aload_n 0, 1) := by decide +kernel
theorem dX0_runTick_26 : decode cX0_runTick 26 = .ok (.getfield 9, 3) := by decide +kernel
theorem dX0_runTick_29 : decode cX0_runTick 29 = .ok (.iload 4, 2) := by decide +kernel
theorem dX0_runTick_31 : decode cX0_runTick 31 = .ok (.iaload, 1) := by decide +kernel
theorem dX0_runTick_32 : decode cX0_runTick 32 = .ok (.iload_n 2, 1) := by decide +kernel
theorem dX0_runTick_33 : decode cX0_runTick 33 = .ok (.invokestatic 56, 3) := by decide +kernel
theorem dX0_runTick_36 : decode cX0_runTick 36 = .ok (.iastore, 1) := by decide +kernel
theorem dX0_runTick_37 : decode cX0_runTick 37 = .ok (.goto 55, 3) := by decide +kernel
theorem dX0_runTick_40 : decode cX0_runTick 40 = .ok (.aload_n 0, 1) := by decide +kernel
theorem dX0_runTick_41 : decode cX0_runTick 41 = .ok (.getfield 9, 3) := by decide +kernel
theorem dX0_runTick_44 : decode cX0_runTick 44 = .ok (.iload 4, 2) := by decide +kernel
theorem dX0_runTick_46 : decode cX0_runTick 46 = .ok (.aload_n 0, 1) := by decide +kernel
theorem dX0_runTick_47 : decode cX0_runTick 47 = .ok (.getfield 9, 3) := by decide +kernel
theorem dX0_runTick_50 : decode cX0_runTick 50 = .ok (.iload 4, 2) := by decide +kernel
theorem dX0_runTick_52 : decode cX0_runTick 52 = .ok (.iaload, 1) := by decide +kernel
theorem dX0_runTick_53 : decode cX0_runTick 53 = .ok (.invokestatic 60, 3) := by decide +kernel
theorem dX0_runTick_56 : decode cX0_runTick 56 = .ok (.iastore, 1) := by decide +kernel
theorem dX0_runTick_57 : decode cX0_runTick 57 = .ok (.aload_n 0, 1) := by decide +kernel
theorem dX0_runTick_58 : decode cX0_runTick 58 = .ok (.getfield 15, 3) := by decide +kernel
theorem dX0_runTick_61 : decode cX0_runTick 61 = .ok (.iload 4, 2) := by decide +kernel
theorem dX0_runTick_63 : decode cX0_runTick 63 = .ok (.dup2, 1) := by decide +kernel
theorem dX0_runTick_64 : decode cX0_runTick 64 = .ok (.iaload, 1) := by decide +kernel
theorem dX0_runTick_65 : decode cX0_runTick 65 = .ok (.iconst 1, 1) := by decide +kernel
theorem dX0_runTick_66 : decode cX0_runTick 66 = .ok (.iadd, 1) := by decide +kernel
theorem dX0_runTick_67 : decode cX0_runTick 67 = .ok (.iastore, 1) := by decide +kernel
theorem dX0_runTick_68 : decode cX0_runTick 68 = .ok (.aload_n 0, 1) := by decide +kernel
theorem dX0_runTick_69 : decode cX0_runTick 69 = .ok (.getfield 15, 3) := by decide +kernel
theorem dX0_runTick_72 : decode cX0_runTick 72 = .ok (.iload 4, 2) := by decide +kernel
theorem dX0_runTick_74 : decode cX0_runTick 74 = .ok (.iaload, 1) := by decide +kernel
theorem dX0_runTick_75 : decode cX0_runTick 75 = .ok (.iload_n 3, 1) := by decide +kernel
theorem dX0_runTick_76 : decode cX0_runTick 76 = .ok (.if_icmp .lt 16, 3) := by decide +kernel
theorem dX0_runTick_79 : decode cX0_runTick 79 = .ok (.aload_n 0, 1) := by decide +kernel
theorem dX0_runTick_80 : decode cX0_runTick 80 = .ok (.dup, 1) := by decide +kernel
theorem dX0_runTick_81 : decode cX0_runTick 81 = .ok (.getfield 43, 3) := by decide +kernel
theorem dX0_runTick_84 : decode cX0_runTick 84 = .ok (.iconst 1, 1) := by decide +kernel
theorem dX0_runTick_85 : decode cX0_runTick 85 = .ok (.iload 4, 2) := by decide +kernel
theorem dX0_runTick_87 : decode cX0_runTick 87 = .ok (.ishl, 1) := by decide +kernel
theorem dX0_runTick_88 : decode cX0_runTick 88 = .ok (.ior, 1) := by decide +kernel
theorem dX0_runTick_89 : decode cX0_runTick 89 = .ok (.putfield 43, 3) := by decide +kernel
theorem dX0_runTick_92 : decode cX0_runTick 92 = .ok (.iinc 4 1, 3) := by decide +kernel
theorem dX0_runTick_95 : decode cX0_runTick 95 = .ok (.goto (-92), 3) := by decide +kernel
theorem dX0_runTick_98 : decode cX0_runTick 98 = .ok (.return_, 1) := by decide +kernel
theorem dX0_seen_0 : decode cX0_seen 0 = .ok (.iconst 0, 1) := by decide +kernel
theorem dX0_seen_1 : decode cX0_seen 1 = .ok (.istore_n 2, 1) := by decide +kernel
theorem dX0_seen_2 : decode cX0_seen 2 = .ok (.iconst 0, 1) := by decide +kernel
theorem dX0_seen_3 : decode cX0_seen 3 = .ok (.istore_n 3, 1) := by decide +kernel
theorem dX0_seen_4 : decode cX0_seen 4 = .ok (.iload_n 3, 1) := by decide +kernel
theorem dX0_seen_5 : decode cX0_seen 5 = .ok (.bipush 8, 2) := by decide +kernel
theorem dX0_seen_7 : decode cX0_seen 7 = .ok (.if_icmp .ge 25, 3) := by decide +kernel
theorem dX0_seen_10 : decode cX0_seen 10 = .ok (.aload_n 0, 1) := by decide +kernel
theorem dX0_seen_11 : decode cX0_seen 11 = .ok (.getfield 9, 3) := by decide +kernel
theorem dX0_seen_14 : decode cX0_seen 14 = .ok (.iload_n 3, 1) := by decide +kernel
theorem dX0_seen_15 : decode cX0_seen 15 = .ok (.iaload, 1) := by decide +kernel
theorem dX0_seen_16 : decode cX0_seen 16 = .ok (.iload_n 1, 1) := by decide +kernel
theorem dX0_seen_17 : decode cX0_seen 17 = .ok (.if_icmp .lt 9, 3) := by decide +kernel
theorem dX0_seen_20 : decode cX0_seen 20 = .ok (.iload_n 2, 1) := by decide +kernel
theorem dX0_seen_21 : decode cX0_seen 21 = .ok (.iconst 1, 1) := by decide +kernel
theorem dX0_seen_22 : decode cX0_seen 22 = .ok (.iload_n 3, 1) := by decide +kernel
theorem dX0_seen_23 : decode cX0_seen 23 = .ok (.ishl, 1) := by decide +kernel
theorem dX0_seen_24 : decode cX0_seen 24 = .ok (.ior, 1) := by decide +kernel
theorem dX0_seen_25 : decode cX0_seen 25 = .ok (.istore_n 2, 1) := by decide +kernel
theorem dX0_seen_26 : decode cX0_seen 26 = .ok (.iinc 3 1, 3) := by decide +kernel
theorem dX0_seen_29 : decode cX0_seen 29 = .ok (.goto (-25), 3) := by decide +kernel
theorem dX0_seen_32 : decode cX0_seen 32 = .ok (.iload_n 2, 1) := by decide +kernel
theorem dX0_seen_33 : decode cX0_seen 33 = .ok (.ireturn, 1) := by decide +kernel
theorem dX0_glowSum_0 : decode cX0_glowSum 0 = .ok (.iconst 0, 1) := by decide +kernel
theorem dX0_glowSum_1 : decode cX0_glowSum 1 = .ok (.istore_n 1, 1) := by decide +kernel
theorem dX0_glowSum_2 : decode cX0_glowSum 2 = .ok (.iconst 0, 1) := by decide +kernel
theorem dX0_glowSum_3 : decode cX0_glowSum 3 = .ok (.istore_n 2, 1) := by decide +kernel
theorem dX0_glowSum_4 : decode cX0_glowSum 4 = .ok (.iload_n 2, 1) := by decide +kernel
theorem dX0_glowSum_5 : decode cX0_glowSum 5 = .ok (.bipush 8, 2) := by decide +kernel
theorem dX0_glowSum_7 : decode cX0_glowSum 7 = .ok (.if_icmp .ge 18, 3) := by decide +kernel
theorem dX0_glowSum_10 : decode cX0_glowSum 10 = .ok (.iload_n 1, 1) := by decide +kernel
theorem dX0_glowSum_11 : decode cX0_glowSum 11 = .ok (.aload_n 0, 1) := by decide +kernel
theorem dX0_glowSum_12 : decode cX0_glowSum 12 = .ok (.getfield 9, 3) := by decide +kernel
theorem dX0_glowSum_15 : decode cX0_glowSum 15 = .ok (.iload_n 2, 1) := by decide +kernel
theorem dX0_glowSum_16 : decode cX0_glowSum 16 = .ok (.iaload, 1) := by decide +kernel
theorem dX0_glowSum_17 : decode cX0_glowSum 17 = .ok (.iadd, 1) := by decide +kernel
theorem dX0_glowSum_18 : decode cX0_glowSum 18 = .ok (.istore_n 1, 1) := by decide +kernel
theorem dX0_glowSum_19 : decode cX0_glowSum 19 = .ok (.iinc 2 1, 3) := by decide +kernel
theorem dX0_glowSum_22 : decode cX0_glowSum 22 = .ok (.goto (-18), 3) := by decide +kernel
theorem dX0_glowSum_25 : decode cX0_glowSum 25 = .ok (.iload_n 1, 1) := by decide +kernel
theorem dX0_glowSum_26 : decode cX0_glowSum 26 = .ok (.ireturn, 1) := by decide +kernel
set_option maxRecDepth 20000 in
theorem ggX1_init_X3_init : GoodIn wsX1_init wsX3_init := goodIn_r _ [10, 11, 2, 3, 12, 13, 14, 15, 16, 17, 18, 19, 20, 21, 22, 23, 24, 25, 26, 27, 28, 29, 30, 31, 32, 33, 34, 35, 36, 37, 38, 39, 40, 41, 42, 43, 44, 45, 46, 47, 51, 52, 53, 54, 55, 56, 57, 58, 59, 60, 61, 62, 63, 64, 65, 66, 67, 68, 69, 70, 71, 72] (by decide +kernel) (by decide +kernel)
set_option maxRecDepth 20000 in
theorem gX1_init_X3_init : GoodIn wsX1_init (wsX3_init) := ggX1_init_X3_init
theorem dX1_init_0 : decode cX1_init 0 = .ok (.aload_n 0, 1) := by decide +kernel
theorem dX1_init_1 : decode cX1_init 1 = .ok (.invokespecial 3, 3) := by decide +kernel
theorem dX1_init_4 : decode cX1_init 4 = .ok (.aload_n 0, 1) := by decide +kernel
theorem dX1_init_5 : decode cX1_init 5 = .ok (.iconst 5, 1) := by decide +kernel
theorem dX1_init_6 : decode cX1_init 6 = .ok (.anewarray 9, 3) := by decide +kernel
theorem dX1_init_9 : decode cX1_init 9 = .ok (.putfield 11, 3) := by decide +kernel
theorem dX1_init_12 : decode cX1_init 12 = .ok (.iconst 0, 1) := by decide +kernel
theorem dX1_init_13 : decode cX1_init 13 = .ok (.istore_n 1, 1) := by decide +kernel
theorem dX1_init_14 : decode cX1_init 14 = .ok (.iload_n 1, 1) := by decide +kernel
theorem dX1_init_15 : decode cX1_init 15 = .ok (.aload_n 0, 1) := by decide +kernel
theorem dX1_init_16 : decode cX1_init 16 = .ok (.getfield 11, 3) := by decide +kernel
theorem dX1_init_19 : decode cX1_init 19 = .ok (.arraylength, 1) := by decide +kernel
theorem dX1_init_20 : decode cX1_init 20 = .ok (.if_icmp .ge 22, 3) := by decide +kernel
theorem dX1_init_23 : decode cX1_init 23 = .ok (.aload_n 0, 1) := by decide +kernel
theorem dX1_init_24 : decode cX1_init 24 = .ok (.getfield 11, 3) := by decide +kernel
theorem dX1_init_27 : decode cX1_init 27 = .ok (.iload_n 1, 1) := by decide +kernel
theorem dX1_init_28 : decode cX1_init 28 = .ok (.new 9, 3) := by decide +kernel
theorem dX1_init_31 : decode cX1_init 31 = .ok (.dup, 1) := by decide +kernel
theorem dX1_init_32 : decode cX1_init 32 = .ok (.invokespecial 17, 3) := by decide +kernel
theorem dX1_init_35 : decode cX1_init 35 = .ok (.aastore, 1) := by decide +kernel
theorem dX1_init_36 : decode cX1_init 36 = .ok (.iinc 1 1, 3) := by decide +kernel
theorem dX1_init_39 : decode cX1_init 39 = .ok (.goto (-25), 3) := by decide +kernel
theorem dX1_init_42 : decode cX1_init 42 = .ok (.return_, 1) := by decide +kernel
set_option maxRecDepth 20000 in
theorem ggX1_record_X3_copyFrom : GoodIn wsX1_record wsX3_copyFrom := goodIn_r _ [12, 13, 14, 15, 16, 17, 18, 19, 20, 21, 22, 23, 24, 25, 26, 27, 28, 29, 30, 31, 32, 33, 34, 35, 36, 37, 38, 39, 40, 41, 42, 43, 44, 48, 49, 50, 51, 52, 53, 54, 55, 56, 57, 58, 59, 60, 61, 62, 63, 64, 65, 66, 67, 68, 69] (by decide +kernel) (by decide +kernel)
set_option maxRecDepth 20000 in
theorem gX1_record_X3_copyFrom : GoodIn wsX1_record (wsV RX1 22 RX3 yX3_copyFrom wsX3_copyFrom) := goodIn_app (goodIn_of _ (by decide +kernel)) ggX1_record_X3_copyFrom
theorem dX1_record_0 : decode cX1_record 0 = .ok (.aload_n 0, 1) := by decide +kernel
theorem dX1_record_1 : decode cX1_record 1 = .ok (.getfield 11, 3) := by decide +kernel
theorem dX1_record_4 : decode cX1_record 4 = .ok (.aload_n 0, 1) := by decide +kernel
theorem dX1_record_5 : decode cX1_record 5 = .ok (.getfield 18, 3) := by decide +kernel
theorem dX1_record_8 : decode cX1_record 8 = .ok (.aaload, 1) := by decide +kernel
theorem dX1_record_9 : decode cX1_record 9 = .ok (.aload_n 1, 1) := by decide +kernel
theorem dX1_record_10 : decode cX1_record 10 = .ok (.invokevirtual 22, 3) := by decide +kernel
theorem dX1_record_13 : decode cX1_record 13 = .ok (.aload_n 0, 1) := by decide +kernel
theorem dX1_record_14 : decode cX1_record 14 = .ok (.aload_n 0, 1) := by decide +kernel
theorem dX1_record_15 : decode cX1_record 15 = .ok (.getfield 18, 3) := by decide +kernel
theorem dX1_record_18 : decode cX1_record 18 = .ok (.iconst 4, 1) := by decide +kernel
theorem dX1_record_19 : decode cX1_record 19 = .ok (.if_icmp .ge 12, 3) := by decide +kernel
theorem dX1_record_22 : decode cX1_record 22 = .ok (.aload_n 0, 1) := by decide +kernel
theorem dX1_record_23 : decode cX1_record 23 = .ok (.getfield 18, 3) := by decide +kernel
theorem dX1_record_26 : decode cX1_record 26 = .ok (.iconst 1, 1) := by decide +kernel
theorem dX1_record_27 : decode cX1_record 27 = .ok (.iadd, 1) := by decide +kernel
theorem dX1_record_28 : decode cX1_record 28 = .ok (.goto 4, 3) := by decide +kernel
theorem dX1_record_31 : decode cX1_record 31 = .ok (.iconst 0, 1) := by decide +kernel
theorem dX1_record_32 : decode cX1_record 32 = .ok (.putfield 18, 3) := by decide +kernel
theorem dX1_record_35 : decode cX1_record 35 = .ok (.aload_n 0, 1) := by decide +kernel
theorem dX1_record_36 : decode cX1_record 36 = .ok (.iconst 5, 1) := by decide +kernel
theorem dX1_record_37 : decode cX1_record 37 = .ok (.aload_n 0, 1) := by decide +kernel
theorem dX1_record_38 : decode cX1_record 38 = .ok (.getfield 26, 3) := by decide +kernel
theorem dX1_record_41 : decode cX1_record 41 = .ok (.iconst 1, 1) := by decide +kernel
theorem dX1_record_42 : decode cX1_record 42 = .ok (.iadd, 1) := by decide +kernel
theorem dX1_record_43 : decode cX1_record 43 = .ok (.invokestatic 29, 3) := by decide +kernel
theorem dX1_record_46 : decode cX1_record 46 = .ok (.putfield 26, 3) := by decide +kernel
theorem dX1_record_49 : decode cX1_record 49 = .ok (.return_, 1) := by decide +kernel
set_option maxRecDepth 20000 in
theorem ggX1_takeBack_X3_copyFrom : GoodIn wsX1_takeBack wsX3_copyFrom := goodIn_r _ [8, 9, 10, 11, 12, 13, 14, 15, 16, 17, 18, 19, 20, 21, 22, 23, 24, 25, 26, 27, 28, 29, 30, 31, 32, 33, 34, 35, 36, 37, 38, 39, 40, 44, 45, 46, 47, 48, 49, 50, 51, 52, 53, 54, 55, 56, 57, 58, 59, 60, 61, 62, 63, 64, 65] (by decide +kernel) (by decide +kernel)
set_option maxRecDepth 20000 in
theorem gX1_takeBack_X3_copyFrom : GoodIn wsX1_takeBack (wsV RX1 22 RX3 yX3_copyFrom wsX3_copyFrom) := goodIn_app (goodIn_of _ (by decide +kernel)) ggX1_takeBack_X3_copyFrom
theorem dX1_takeBack_0 : decode cX1_takeBack 0 = .ok (.aload_n 0, 1) := by decide +kernel
theorem dX1_takeBack_1 : decode cX1_takeBack 1 = .ok (.aload_n 0, 1) := by decide +kernel
theorem dX1_takeBack_2 : decode cX1_takeBack 2 = .ok (.getfield 18, 3) := by decide +kernel
theorem dX1_takeBack_5 : decode cX1_takeBack 5 = .ok (.ifCond .le 12, 3) := by decide +kernel
theorem dX1_takeBack_8 : decode cX1_takeBack 8 = .ok (.aload_n 0, 1) := by decide +kernel
theorem dX1_takeBack_9 : decode cX1_takeBack 9 = .ok (.getfield 18, 3) := by decide +kernel
theorem dX1_takeBack_12 : decode cX1_takeBack 12 = .ok (.iconst 1, 1) := by decide +kernel
theorem dX1_takeBack_13 : decode cX1_takeBack 13 = .ok (.isub, 1) := by decide +kernel
theorem dX1_takeBack_14 : decode cX1_takeBack 14 = .ok (.goto 4, 3) := by decide +kernel
theorem dX1_takeBack_17 : decode cX1_takeBack 17 = .ok (.iconst 4, 1) := by decide +kernel
theorem dX1_takeBack_18 : decode cX1_takeBack 18 = .ok (.putfield 18, 3) := by decide +kernel
theorem dX1_takeBack_21 : decode cX1_takeBack 21 = .ok (.aload_n 1, 1) := by decide +kernel
theorem dX1_takeBack_22 : decode cX1_takeBack 22 = .ok (.aload_n 0, 1) := by decide +kernel
theorem dX1_takeBack_23 : decode cX1_takeBack 23 = .ok (.getfield 11, 3) := by decide +kernel
theorem dX1_takeBack_26 : decode cX1_takeBack 26 = .ok (.aload_n 0, 1) := by decide +kernel
theorem dX1_takeBack_27 : decode cX1_takeBack 27 = .ok (.getfield 18, 3) := by decide +kernel
theorem dX1_takeBack_30 : decode cX1_takeBack 30 = .ok (.aaload, 1) := by decide +kernel
theorem dX1_takeBack_31 : decode cX1_takeBack 31 = .ok (.invokevirtual 22, 3) := by decide +kernel
theorem dX1_takeBack_34 : decode cX1_takeBack 34 = .ok (.aload_n 0, 1) := by decide +kernel
theorem dX1_takeBack_35 : decode cX1_takeBack 35 = .ok (.dup, 1) := by decide +kernel
theorem dX1_takeBack_36 : decode cX1_takeBack 36 = .ok (.getfield 26, 3) := by decide +kernel
theorem dX1_takeBack_39 : decode cX1_takeBack 39 = .ok (.iconst 1, 1) := by decide +kernel
theorem dX1_takeBack_40 : decode cX1_takeBack 40 = .ok (.isub, 1) := by decide +kernel
theorem dX1_takeBack_41 : decode cX1_takeBack 41 = .ok (.putfield 26, 3) := by decide +kernel
theorem dX1_takeBack_44 : decode cX1_takeBack 44 = .ok (.return_, 1) := by decide +kernel
set_option maxRecDepth 20000 in
theorem ggX2_init_X3_init : GoodIn wsX2_init wsX3_init := goodIn_r _ [10, 11, 2, 3, 12, 13, 14, 15, 16, 17, 18, 19, 20, 21, 22, 23, 24, 25, 26, 27, 28, 29, 30, 31, 32, 33, 34, 35, 36, 37, 38, 39, 40, 41, 42, 43, 44, 45, 46, 47, 48, 49, 50, 51, 52, 53, 54, 55, 56, 57, 58, 59, 60, 63, 64, 65, 66, 67, 68, 69, 70, 71] (by decide +kernel) (by decide +kernel)
set_option maxRecDepth 20000 in
theorem gX2_init_X3_init : GoodIn wsX2_init (wsX3_init) := ggX2_init_X3_init
theorem dX2_init_0 : decode cX2_init 0 = .ok (.aload_n 0, 1) := by decide +kernel
theorem dX2_init_1 : decode cX2_init 1 = .ok (.invokespecial 1, 3) := by decide +kernel
theorem dX2_init_4 : decode cX2_init 4 = .ok (.aload_n 0, 1) := by decide +kernel
theorem dX2_init_5 : decode cX2_init 5 = .ok (.new 7, 3) := by decide +kernel
theorem dX2_init_8 : decode cX2_init 8 = .ok (.dup, 1) := by decide +kernel
theorem dX2_init_9 : decode cX2_init 9 = .ok (.invokespecial 9, 3) := by decide +kernel
theorem dX2_init_12 : decode cX2_init 12 = .ok (.putfield 10, 3) := by decide +kernel
theorem dX2_init_15 : decode cX2_init 15 = .ok (.return_, 1) := by decide +kernel
set_option maxRecDepth 20000 in
theorem ggX3_init_X0_init : GoodIn wsX3_init wsX0_init := goodIn_r _ [21, 22, 2, 3, 7, 23, 24, 25, 26, 27, 18, 28, 29, 30, 31, 32, 33, 34, 35, 36, 37, 38, 39, 53, 54, 55, 56, 57, 58, 59, 60, 61] (by decide +kernel) (by decide +kernel)
set_option maxRecDepth 20000 in
theorem gX3_init_X0_init : GoodIn wsX3_init (wsX0_init) := ggX3_init_X0_init
theorem dX3_init_0 : decode cX3_init 0 = .ok (.aload_n 0, 1) := by decide +kernel
theorem dX3_init_1 : decode cX3_init 1 = .ok (.invokespecial 3, 3) := by decide +kernel
theorem dX3_init_4 : decode cX3_init 4 = .ok (.aload_n 0, 1) := by decide +kernel
theorem dX3_init_5 : decode cX3_init 5 = .ok (.bipush 8, 2) := by decide +kernel
theorem dX3_init_7 : decode cX3_init 7 = .ok (.anewarray 9, 3) := by decide +kernel
theorem dX3_init_10 : decode cX3_init 10 = .ok (.putfield 11, 3) := by decide +kernel
theorem dX3_init_13 : decode cX3_init 13 = .ok (.aload_n 0, 1) := by decide +kernel
theorem dX3_init_14 : decode cX3_init 14 = .ok (.iconst 4, 1) := by decide +kernel
theorem dX3_init_15 : decode cX3_init 15 = .ok (.putfield 17, 3) := by decide +kernel
theorem dX3_init_18 : decode cX3_init 18 = .ok (.aload_n 0, 1) := by decide +kernel
theorem dX3_init_19 : decode cX3_init 19 = .ok (.iconst 4, 1) := by decide +kernel
theorem dX3_init_20 : decode cX3_init 20 = .ok (.newarray .int, 2) := by decide +kernel
theorem dX3_init_22 : decode cX3_init 22 = .ok (.dup, 1) := by decide +kernel
theorem dX3_init_23 : decode cX3_init 23 = .ok (.iconst 0, 1) := by decide +kernel
theorem dX3_init_24 : decode cX3_init 24 = .ok (.iconst 0, 1) := by decide +kernel
theorem dX3_init_25 : decode cX3_init 25 = .ok (.iastore, 1) := by decide +kernel
theorem dX3_init_26 : decode cX3_init 26 = .ok (.dup, 1) := by decide +kernel
theorem dX3_init_27 : decode cX3_init 27 = .ok (.iconst 1, 1) := by decide +kernel
theorem dX3_init_28 : decode cX3_init 28 = .ok (.iconst 5, 1) := by decide +kernel
theorem dX3_init_29 : decode cX3_init 29 = .ok (.iastore, 1) := by decide +kernel
theorem dX3_init_30 : decode cX3_init 30 = .ok (.dup, 1) := by decide +kernel
theorem dX3_init_31 : decode cX3_init 31 = .ok (.iconst 2, 1) := by decide +kernel
theorem dX3_init_32 : decode cX3_init 32 = .ok (.iconst 5, 1) := by decide +kernel
theorem dX3_init_33 : decode cX3_init 33 = .ok (.iastore, 1) := by decide +kernel
theorem dX3_init_34 : decode cX3_init 34 = .ok (.dup, 1) := by decide +kernel
theorem dX3_init_35 : decode cX3_init 35 = .ok (.iconst 3, 1) := by decide +kernel
theorem dX3_init_36 : decode cX3_init 36 = .ok (.iconst 5, 1) := by decide +kernel
theorem dX3_init_37 : decode cX3_init 37 = .ok (.iastore, 1) := by decide +kernel
theorem dX3_init_38 : decode cX3_init 38 = .ok (.putfield 21, 3) := by decide +kernel
theorem dX3_init_41 : decode cX3_init 41 = .ok (.aload_n 0, 1) := by decide +kernel
theorem dX3_init_42 : decode cX3_init 42 = .ok (.iconst 4, 1) := by decide +kernel
theorem dX3_init_43 : decode cX3_init 43 = .ok (.newarray .int, 2) := by decide +kernel
theorem dX3_init_45 : decode cX3_init 45 = .ok (.dup, 1) := by decide +kernel
theorem dX3_init_46 : decode cX3_init 46 = .ok (.iconst 0, 1) := by decide +kernel
theorem dX3_init_47 : decode cX3_init 47 = .ok (.iconst 0, 1) := by decide +kernel
theorem dX3_init_48 : decode cX3_init 48 = .ok (.iastore, 1) := by decide +kernel
theorem dX3_init_49 : decode cX3_init 49 = .ok (.dup, 1) := by decide +kernel
theorem dX3_init_50 : decode cX3_init 50 = .ok (.iconst 1, 1) := by decide +kernel
theorem dX3_init_51 : decode cX3_init 51 = .ok (.iconst 5, 1) := by decide +kernel
theorem dX3_init_52 : decode cX3_init 52 = .ok (.iastore, 1) := by decide +kernel
theorem dX3_init_53 : decode cX3_init 53 = .ok (.dup, 1) := by decide +kernel
theorem dX3_init_54 : decode cX3_init 54 = .ok (.iconst 2, 1) := by decide +kernel
theorem dX3_init_55 : decode cX3_init 55 = .ok (.iconst 5, 1) := by decide +kernel
theorem dX3_init_56 : decode cX3_init 56 = .ok (.iastore, 1) := by decide +kernel
theorem dX3_init_57 : decode cX3_init 57 = .ok (.dup, 1) := by decide +kernel
theorem dX3_init_58 : decode cX3_init 58 = .ok (.iconst 3, 1) := by decide +kernel
theorem dX3_init_59 : decode cX3_init 59 = .ok (.iconst 5, 1) := by decide +kernel
theorem dX3_init_60 : decode cX3_init 60 = .ok (.iastore, 1) := by decide +kernel
theorem dX3_init_61 : decode cX3_init 61 = .ok (.putfield 25, 3) := by decide +kernel
theorem dX3_init_64 : decode cX3_init 64 = .ok (.aload_n 0, 1) := by decide +kernel
theorem dX3_init_65 : decode cX3_init 65 = .ok (.getstatic 28, 3) := by decide +kernel
theorem dX3_init_68 : decode cX3_init 68 = .ok (.invokevirtual 31, 3) := by decide +kernel
theorem dX3_init_71 : decode cX3_init 71 = .ok (.checkcast 32, 3) := by decide +kernel
theorem dX3_init_74 : decode cX3_init 74 = .ok (.putfield 36, 3) := by decide +kernel
theorem dX3_init_77 : decode cX3_init 77 = .ok (.iconst 0, 1) := by decide +kernel
theorem dX3_init_78 : decode cX3_init 78 = .ok (.istore_n 1, 1) := by decide +kernel
theorem dX3_init_79 : decode cX3_init 79 = .ok (.iload_n 1, 1) := by decide +kernel
theorem dX3_init_80 : decode cX3_init 80 = .ok (.aload_n 0, 1) := by decide +kernel
theorem dX3_init_81 : decode cX3_init 81 = .ok (.getfield 11, 3) := by decide +kernel
theorem dX3_init_84 : decode cX3_init 84 = .ok (.arraylength, 1) := by decide +kernel
theorem dX3_init_85 : decode cX3_init 85 = .ok (.if_icmp .ge 22, 3) := by decide +kernel
theorem dX3_init_88 : decode cX3_init 88 = .ok (.aload_n 0, 1) := by decide +kernel
theorem dX3_init_89 : decode cX3_init 89 = .ok (.getfield 11, 3) := by decide +kernel
theorem dX3_init_92 : decode cX3_init 92 = .ok (.iload_n 1, 1) := by decide +kernel
theorem dX3_init_93 : decode cX3_init 93 = .ok (.new 9, 3) := by decide +kernel
theorem dX3_init_96 : decode cX3_init 96 = .ok (.dup, 1) := by decide +kernel
theorem dX3_init_97 : decode cX3_init 97 = .ok (.invokespecial 39, 3) := by decide +kernel
theorem dX3_init_100 : decode cX3_init 100 = .ok (.aastore, 1) := by decide +kernel
theorem dX3_init_101 : decode cX3_init 101 = .ok (.iinc 1 1, 3) := by decide +kernel
theorem dX3_init_104 : decode cX3_init 104 = .ok (.goto (-25), 3) := by decide +kernel
theorem dX3_init_107 : decode cX3_init 107 = .ok (.return_, 1) := by decide +kernel
set_option maxRecDepth 20000 in
theorem ggX3_copyFrom_X0_copyFrom : GoodIn wsX3_copyFrom wsX0_copyFrom := goodIn_r _ [22, 23, 24, 25, 26, 27, 28, 29, 30, 31, 5, 6, 7, 32, 46, 47, 48, 49, 50, 51, 52, 53, 54] (by decide +kernel) (by decide +kernel)
set_option maxRecDepth 20000 in
theorem gX3_copyFrom_X0_copyFrom : GoodIn wsX3_copyFrom (wsV RX3 40 RX0 yX0_copyFrom wsX0_copyFrom) := goodIn_app (goodIn_of _ (by decide +kernel)) ggX3_copyFrom_X0_copyFrom
theorem dX3_copyFrom_0 : decode cX3_copyFrom 0 = .ok (.iconst 0, 1) := by decide +kernel
theorem dX3_copyFrom_1 : decode cX3_copyFrom 1 = .ok (.istore_n 2, 1) := by decide +kernel
theorem dX3_copyFrom_2 : decode cX3_copyFrom 2 = .ok (.iload_n 2, 1) := by decide +kernel
theorem dX3_copyFrom_3 : decode cX3_copyFrom 3 = .ok (.bipush 8, 2) := by decide +kernel
theorem dX3_copyFrom_5 : decode cX3_copyFrom 5 = .ok (.if_icmp .ge 24, 3) := by decide +kernel
theorem dX3_copyFrom_8 : decode cX3_copyFrom 8 = .ok (.aload_n 0, 1) := by decide +kernel
theorem dX3_copyFrom_9 : decode cX3_copyFrom 9 = .ok (.getfield 11, 3) := by decide +kernel
theorem dX3_copyFrom_12 : decode cX3_copyFrom 12 = .ok (.iload_n 2, 1) := by decide +kernel
theorem dX3_copyFrom_13 : decode cX3_copyFrom 13 = .ok (.aaload, 1) := by decide +kernel
theorem dX3_copyFrom_14 : decode cX3_copyFrom 14 = .ok (.aload_n 1, 1) := by decide +kernel
theorem dX3_copyFrom_15 : decode cX3_copyFrom 15 = .ok (.getfield 11, 3) := by decide +kernel
theorem dX3_copyFrom_18 : decode cX3_copyFrom 18 = .ok (.iload_n 2, 1) := by decide +kernel
theorem dX3_copyFrom_19 : decode cX3_copyFrom 19 = .ok (.aaload, 1) := by decide +kernel
theorem dX3_copyFrom_20 : decode cX3_copyFrom 20 = .ok (.invokevirtual 40, 3) := by decide +kernel
theorem dX3_copyFrom_23 : decode cX3_copyFrom 23 = .ok (.iinc 2 1, 3) := by decide +kernel
theorem dX3_copyFrom_26 : decode cX3_copyFrom 26 = .ok (.goto (-24), 3) := by decide +kernel
theorem dX3_copyFrom_29 : decode cX3_copyFrom 29 = .ok (.aload_n 0, 1) := by decide +kernel
theorem dX3_copyFrom_30 : decode cX3_copyFrom 30 = .ok (.aload_n 1, 1) := by decide +kernel
theorem dX3_copyFrom_31 : decode cX3_copyFrom 31 = .ok (.getfield 17, 3) := by decide +kernel
theorem dX3_copyFrom_34 : decode cX3_copyFrom 34 = .ok (.putfield 17, 3) := by decide +kernel
theorem dX3_copyFrom_37 : decode cX3_copyFrom 37 = .ok (.aload_n 1, 1) := by decide +kernel
theorem dX3_copyFrom_38 : decode cX3_copyFrom 38 = .ok (.getfield 21, 3) := by decide +kernel
theorem dX3_copyFrom_41 : decode cX3_copyFrom 41 = .ok (.iconst 0, 1) := by decide +kernel
theorem dX3_copyFrom_42 : decode cX3_copyFrom 42 = .ok (.aload_n 0, 1) := by decide +kernel
theorem dX3_copyFrom_43 : decode cX3_copyFrom 43 = .ok (.getfield 21, 3) := by decide +kernel
theorem dX3_copyFrom_46 : decode cX3_copyFrom 46 = .ok (.iconst 0, 1) := by decide +kernel
theorem dX3_copyFrom_47 : decode cX3_copyFrom 47 = .ok (.iconst 4, 1) := by decide +kernel
theorem dX3_copyFrom_48 : decode cX3_copyFrom 48 = .ok (.invokestatic 44, 3) := by decide +kernel
theorem dX3_copyFrom_51 : decode cX3_copyFrom 51 = .ok (.aload_n 1, 1) := by decide +kernel
theorem dX3_copyFrom_52 : decode cX3_copyFrom 52 = .ok (.getfield 25, 3) := by decide +kernel
theorem dX3_copyFrom_55 : decode cX3_copyFrom 55 = .ok (.iconst 0, 1) := by decide +kernel
theorem dX3_copyFrom_56 : decode cX3_copyFrom 56 = .ok (.aload_n 0, 1) := by decide +kernel
theorem dX3_copyFrom_57 : decode cX3_copyFrom 57 = .ok (.getfield 25, 3) := by decide +kernel
theorem dX3_copyFrom_60 : decode cX3_copyFrom 60 = .ok (.iconst 0, 1) := by decide +kernel
theorem dX3_copyFrom_61 : decode cX3_copyFrom 61 = .ok (.iconst 4, 1) := by decide +kernel
theorem dX3_copyFrom_62 : decode cX3_copyFrom 62 = .ok (.invokestatic 44, 3) := by decide +kernel
theorem dX3_copyFrom_65 : decode cX3_copyFrom 65 = .ok (.aload_n 1, 1) := by decide +kernel
theorem dX3_copyFrom_66 : decode cX3_copyFrom 66 = .ok (.getfield 36, 3) := by decide +kernel
theorem dX3_copyFrom_69 : decode cX3_copyFrom 69 = .ok (.iconst 0, 1) := by decide +kernel
theorem dX3_copyFrom_70 : decode cX3_copyFrom 70 = .ok (.aload_n 0, 1) := by decide +kernel
theorem dX3_copyFrom_71 : decode cX3_copyFrom 71 = .ok (.getfield 36, 3) := by decide +kernel
theorem dX3_copyFrom_74 : decode cX3_copyFrom 74 = .ok (.iconst 0, 1) := by decide +kernel
theorem dX3_copyFrom_75 : decode cX3_copyFrom 75 = .ok (.aload_n 0, 1) := by decide +kernel
theorem dX3_copyFrom_76 : decode cX3_copyFrom 76 = .ok (.getfield 36, 3) := by decide +kernel
theorem dX3_copyFrom_79 : decode cX3_copyFrom 79 = .ok (.arraylength, 1) := by decide +kernel
theorem dX3_copyFrom_80 : decode cX3_copyFrom 80 = .ok (.invokestatic 44, 3) := by decide +kernel
theorem dX3_copyFrom_83 : decode cX3_copyFrom 83 = .ok (.aload_n 0, 1) := by decide +kernel
theorem dX3_copyFrom_84 : decode cX3_copyFrom 84 = .ok (.aload_n 1, 1) := by decide +kernel
theorem dX3_copyFrom_85 : decode cX3_copyFrom 85 = .ok (.getfield 50, 3) := by decide +kernel
theorem dX3_copyFrom_88 : decode cX3_copyFrom 88 = .ok (.putfield 50, 3) := by decide +kernel
theorem dX3_copyFrom_91 : decode cX3_copyFrom 91 = .ok (.aload_n 0, 1) := by decide +kernel
theorem dX3_copyFrom_92 : decode cX3_copyFrom 92 = .ok (.aload_n 1, 1) := by decide +kernel
theorem dX3_copyFrom_93 : decode cX3_copyFrom 93 = .ok (.getfield 53, 3) := by decide +kernel
theorem dX3_copyFrom_96 : decode cX3_copyFrom 96 = .ok (.putfield 53, 3) := by decide +kernel
theorem dX3_copyFrom_99 : decode cX3_copyFrom 99 = .ok (.aload_n 0, 1) := by decide +kernel
theorem dX3_copyFrom_100 : decode cX3_copyFrom 100 = .ok (.aload_n 1, 1) := by decide +kernel
theorem dX3_copyFrom_101 : decode cX3_copyFrom 101 = .ok (.getfield 56, 3) := by decide +kernel
theorem dX3_copyFrom_104 : decode cX3_copyFrom 104 = .ok (.putfield 56, 3) := by decide +kernel
theorem dX3_copyFrom_107 : decode cX3_copyFrom 107 = .ok (.aload_n 0, 1) := by decide +kernel
theorem dX3_copyFrom_108 : decode cX3_copyFrom 108 = .ok (.aload_n 1, 1) := by decide +kernel
theorem dX3_copyFrom_109 : decode cX3_copyFrom 109 = .ok (.getfield 59, 3) := by decide +kernel
theorem dX3_copyFrom_112 : decode cX3_copyFrom 112 = .ok (.putfield 59, 3) := by decide +kernel
theorem dX3_copyFrom_115 : decode cX3_copyFrom 115 = .ok (.aload_n 0, 1) := by decide +kernel
theorem dX3_copyFrom_116 : decode cX3_copyFrom 116 = .ok (.aload_n 1, 1) := by decide +kernel
theorem dX3_copyFrom_117 : decode cX3_copyFrom 117 = .ok (.getfield 62, 3) := by decide +kernel
theorem dX3_copyFrom_120 : decode cX3_copyFrom 120 = .ok (.putfield 62, 3) := by decide +kernel
theorem dX3_copyFrom_123 : decode cX3_copyFrom 123 = .ok (.aload_n 0, 1) := by decide +kernel
theorem dX3_copyFrom_124 : decode cX3_copyFrom 124 = .ok (.aload_n 1, 1) := by decide +kernel
theorem dX3_copyFrom_125 : decode cX3_copyFrom 125 = .ok (.getfield 65, 3) := by decide +kernel
theorem dX3_copyFrom_128 : decode cX3_copyFrom 128 = .ok (.putfield 65, 3) := by decide +kernel
theorem dX3_copyFrom_131 : decode cX3_copyFrom 131 = .ok (.aload_n 0, 1) := by decide +kernel
theorem dX3_copyFrom_132 : decode cX3_copyFrom 132 = .ok (.aload_n 1, 1) := by decide +kernel
theorem dX3_copyFrom_133 : decode cX3_copyFrom 133 = .ok (.getfield 69, 3) := by decide +kernel
theorem dX3_copyFrom_136 : decode cX3_copyFrom 136 = .ok (.putfield 69, 3) := by decide +kernel
theorem dX3_copyFrom_139 : decode cX3_copyFrom 139 = .ok (.aload_n 0, 1) := by decide +kernel
theorem dX3_copyFrom_140 : decode cX3_copyFrom 140 = .ok (.aload_n 1, 1) := by decide +kernel
theorem dX3_copyFrom_141 : decode cX3_copyFrom 141 = .ok (.getfield 72, 3) := by decide +kernel
theorem dX3_copyFrom_144 : decode cX3_copyFrom 144 = .ok (.putfield 72, 3) := by decide +kernel
theorem dX3_copyFrom_147 : decode cX3_copyFrom 147 = .ok (.return_, 1) := by decide +kernel
set_option maxRecDepth 20000 in
theorem ggX3_find_X5_isWithin : GoodIn wsX3_find wsX5_isWithin := goodIn_r _ [5] (by decide +kernel) (by decide +kernel)
set_option maxRecDepth 20000 in
theorem gX3_find_X5_isWithin_n75 : GoodIn wsX3_find (wsX5_isWithin) := ggX3_find_X5_isWithin
theorem dX3_find_0 : decode cX3_find 0 = .ok (.iload_n 1, 1) := by decide +kernel
theorem dX3_find_1 : decode cX3_find 1 = .ok (.iconst 0, 1) := by decide +kernel
theorem dX3_find_2 : decode cX3_find 2 = .ok (.aload_n 0, 1) := by decide +kernel
theorem dX3_find_3 : decode cX3_find 3 = .ok (.getfield 17, 3) := by decide +kernel
theorem dX3_find_6 : decode cX3_find 6 = .ok (.iconst 1, 1) := by decide +kernel
theorem dX3_find_7 : decode cX3_find 7 = .ok (.isub, 1) := by decide +kernel
theorem dX3_find_8 : decode cX3_find 8 = .ok (.invokestatic 75, 3) := by decide +kernel
theorem dX3_find_11 : decode cX3_find 11 = .ok (.ifCond .eq 12, 3) := by decide +kernel
theorem dX3_find_14 : decode cX3_find 14 = .ok (.aload_n 0, 1) := by decide +kernel
theorem dX3_find_15 : decode cX3_find 15 = .ok (.getfield 11, 3) := by decide +kernel
theorem dX3_find_18 : decode cX3_find 18 = .ok (.iload_n 1, 1) := by decide +kernel
theorem dX3_find_19 : decode cX3_find 19 = .ok (.aaload, 1) := by decide +kernel
theorem dX3_find_20 : decode cX3_find 20 = .ok (.goto 4, 3) := by decide +kernel
theorem dX3_find_23 : decode cX3_find 23 = .ok (.aconst_null, 1) := by decide +kernel
theorem dX3_find_24 : decode cX3_find 24 = .ok (.areturn, 1) := by decide +kernel
set_option maxRecDepth 20000 in
theorem ggX3_changeDigitCount_X0_makeNew : GoodIn wsX3_changeDigitCount wsX0_makeNew := goodIn_r _ [7, 8, 9, 10, 11, 12, 13, 14, 15, 16, 6, 17, 18, 19, 20, 42, 43, 44, 45, 46, 47, 48, 49, 50] (by decide +kernel) (by decide +kernel)
set_option maxRecDepth 20000 in
theorem gX3_changeDigitCount_X0_makeNew : GoodIn wsX3_changeDigitCount (wsV RX3 79 RX0 yX0_makeNew wsX0_makeNew) := goodIn_app (goodIn_of _ (by decide +kernel)) ggX3_changeDigitCount_X0_makeNew
set_option maxRecDepth 20000 in
theorem ggX3_changeDigitCount_X3_beginFrame : GoodIn wsX3_changeDigitCount wsX3_beginFrame := goodIn_r _ [25, 26, 27, 28, 29, 30, 31, 32, 33, 34, 35, 36, 37, 38, 39, 40, 41] (by decide +kernel) (by decide +kernel)
set_option maxRecDepth 20000 in
theorem gX3_changeDigitCount_X3_beginFrame : GoodIn wsX3_changeDigitCount (wsV RX3 82 RX3 yX3_beginFrame wsX3_beginFrame) := goodIn_app (goodIn_of _ (by decide +kernel)) ggX3_changeDigitCount_X3_beginFrame
theorem dX3_changeDigitCount_0 : decode cX3_changeDigitCount 0 = .ok (.iload_n 1, 1) := by decide +kernel
theorem dX3_changeDigitCount_1 : decode cX3_changeDigitCount 1 = .ok (.aload_n 0, 1) := by decide +kernel
theorem dX3_changeDigitCount_2 : decode cX3_changeDigitCount 2 = .ok (.getfield 17, 3) := by decide +kernel
theorem dX3_changeDigitCount_5 : decode cX3_changeDigitCount 5 = .ok (.if_icmp .ne 4, 3) := by decide +kernel
theorem dX3_changeDigitCount_8 : decode cX3_changeDigitCount 8 = .ok (.return_, 1) := by decide +kernel
theorem dX3_changeDigitCount_9 : decode cX3_changeDigitCount 9 = .ok (.aload_n 0, 1) := by decide +kernel
theorem dX3_changeDigitCount_10 : decode cX3_changeDigitCount 10 = .ok (.getfield 17, 3) := by decide +kernel
theorem dX3_changeDigitCount_13 : decode cX3_changeDigitCount 13 = .ok (.istore_n 2, 1) := by decide +kernel
theorem dX3_changeDigitCount_14 : decode cX3_changeDigitCount 14 = .ok (.iload_n 2, 1) := by decide +kernel
theorem dX3_changeDigitCount_15 : decode cX3_changeDigitCount 15 = .ok (.iload_n 1, 1) := by decide +kernel
theorem dX3_changeDigitCount_16 : decode cX3_changeDigitCount 16 = .ok (.if_icmp .ge 18, 3) := by decide +kernel
theorem dX3_changeDigitCount_19 : decode cX3_changeDigitCount 19 = .ok (.aload_n 0, 1) := by decide +kernel
theorem dX3_changeDigitCount_20 : decode cX3_changeDigitCount 20 = .ok (.getfield 11, 3) := by decide +kernel
theorem dX3_changeDigitCount_23 : decode cX3_changeDigitCount 23 = .ok (.iload_n 2, 1) := by decide +kernel
theorem dX3_changeDigitCount_24 : decode cX3_changeDigitCount 24 = .ok (.aaload, 1) := by decide +kernel
theorem dX3_changeDigitCount_25 : decode cX3_changeDigitCount 25 = .ok (.invokevirtual 79, 3) := by decide +kernel
theorem dX3_changeDigitCount_28 : decode cX3_changeDigitCount 28 = .ok (.iinc 2 1, 3) := by decide +kernel
theorem dX3_changeDigitCount_31 : decode cX3_changeDigitCount 31 = .ok (.goto (-17), 3) := by decide +kernel
theorem dX3_changeDigitCount_34 : decode cX3_changeDigitCount 34 = .ok (.aload_n 0, 1) := by decide +kernel
theorem dX3_changeDigitCount_35 : decode cX3_changeDigitCount 35 = .ok (.iload_n 1, 1) := by decide +kernel
theorem dX3_changeDigitCount_36 : decode cX3_changeDigitCount 36 = .ok (.putfield 17, 3) := by decide +kernel
theorem dX3_changeDigitCount_39 : decode cX3_changeDigitCount 39 = .ok (.aload_n 0, 1) := by decide +kernel
theorem dX3_changeDigitCount_40 : decode cX3_changeDigitCount 40 = .ok (.invokevirtual 82, 3) := by decide +kernel
theorem dX3_changeDigitCount_43 : decode cX3_changeDigitCount 43 = .ok (.return_, 1) := by decide +kernel
set_option maxRecDepth 20000 in
theorem ggX3_changeWidth_X3_beginFrame : GoodIn wsX3_changeWidth wsX3_beginFrame := goodIn_r _ [6, 7, 8, 9, 19, 20, 21, 22, 23, 24, 25, 26, 27, 28, 29, 30, 31] (by decide +kernel) (by decide +kernel)
set_option maxRecDepth 20000 in
theorem gX3_changeWidth_X3_beginFrame : GoodIn wsX3_changeWidth (wsV RX3 82 RX3 yX3_beginFrame wsX3_beginFrame) := goodIn_app (goodIn_of _ (by decide +kernel)) ggX3_changeWidth_X3_beginFrame
theorem dX3_changeWidth_0 : decode cX3_changeWidth 0 = .ok (.iload_n 2, 1) := by decide +kernel
theorem dX3_changeWidth_1 : decode cX3_changeWidth 1 = .ok (.aload_n 1, 1) := by decide +kernel
theorem dX3_changeWidth_2 : decode cX3_changeWidth 2 = .ok (.getfield 85, 3) := by decide +kernel
theorem dX3_changeWidth_5 : decode cX3_changeWidth 5 = .ok (.if_icmp .ne 4, 3) := by decide +kernel
theorem dX3_changeWidth_8 : decode cX3_changeWidth 8 = .ok (.return_, 1) := by decide +kernel
theorem dX3_changeWidth_9 : decode cX3_changeWidth 9 = .ok (.aload_n 1, 1) := by decide +kernel
theorem dX3_changeWidth_10 : decode cX3_changeWidth 10 = .ok (.iload_n 2, 1) := by decide +kernel
theorem dX3_changeWidth_11 : decode cX3_changeWidth 11 = .ok (.putfield 85, 3) := by decide +kernel
theorem dX3_changeWidth_14 : decode cX3_changeWidth 14 = .ok (.aload_n 0, 1) := by decide +kernel
theorem dX3_changeWidth_15 : decode cX3_changeWidth 15 = .ok (.invokevirtual 82, 3) := by decide +kernel
theorem dX3_changeWidth_18 : decode cX3_changeWidth 18 = .ok (.return_, 1) := by decide +kernel
theorem dX3_beginFrame_0 : decode cX3_beginFrame 0 = .ok (.aload_n 0, 1) := by decide +kernel
theorem dX3_beginFrame_1 : decode cX3_beginFrame 1 = .ok (.dup, 1) := by decide +kernel
theorem dX3_beginFrame_2 : decode cX3_beginFrame 2 = .ok (.getfield 53, 3) := by decide +kernel
theorem dX3_beginFrame_5 : decode cX3_beginFrame 5 = .ok (.iconst 1, 1) := by decide +kernel
theorem dX3_beginFrame_6 : decode cX3_beginFrame 6 = .ok (.iadd, 1) := by decide +kernel
theorem dX3_beginFrame_7 : decode cX3_beginFrame 7 = .ok (.putfield 53, 3) := by decide +kernel
theorem dX3_beginFrame_10 : decode cX3_beginFrame 10 = .ok (.aload_n 0, 1) := by decide +kernel
theorem dX3_beginFrame_11 : decode cX3_beginFrame 11 = .ok (.iconst 0, 1) := by decide +kernel
theorem dX3_beginFrame_12 : decode cX3_beginFrame 12 = .ok (.putfield 56, 3) := by decide +kernel
theorem dX3_beginFrame_15 : decode cX3_beginFrame 15 = .ok (.aload_n 0, 1) := by decide +kernel
theorem dX3_beginFrame_16 : decode cX3_beginFrame 16 = .ok (.getfield 59, 3) := by decide +kernel
theorem dX3_beginFrame_19 : decode cX3_beginFrame 19 = .ok (.ifCond .le 13, 3) := by decide +kernel
theorem dX3_beginFrame_22 : decode cX3_beginFrame 22 = .ok (.aload_n 0, 1) := by decide +kernel
theorem dX3_beginFrame_23 : decode cX3_beginFrame 23 = .ok (.dup, 1) := by decide +kernel
theorem dX3_beginFrame_24 : decode cX3_beginFrame 24 = .ok (.getfield 59, 3) := by decide +kernel
theorem dX3_beginFrame_27 : decode cX3_beginFrame 27 = .ok (.iconst 1, 1) := by decide +kernel
theorem dX3_beginFrame_28 : decode cX3_beginFrame 28 = .ok (.isub, 1) := by decide +kernel
theorem dX3_beginFrame_29 : decode cX3_beginFrame 29 = .ok (.putfield 59, 3) := by decide +kernel
theorem dX3_beginFrame_32 : decode cX3_beginFrame 32 = .ok (.return_, 1) := by decide +kernel
theorem dX3_takePatterns_0 : decode cX3_takePatterns 0 = .ok (.iconst 0, 1) := by decide +kernel
theorem dX3_takePatterns_1 : decode cX3_takePatterns 1 = .ok (.istore_n 2, 1) := by decide +kernel
theorem dX3_takePatterns_2 : decode cX3_takePatterns 2 = .ok (.iload_n 2, 1) := by decide +kernel
theorem dX3_takePatterns_3 : decode cX3_takePatterns 3 = .ok (.aload_n 0, 1) := by decide +kernel
theorem dX3_takePatterns_4 : decode cX3_takePatterns 4 = .ok (.getfield 17, 3) := by decide +kernel
theorem dX3_takePatterns_7 : decode cX3_takePatterns 7 = .ok (.if_icmp .ge 27, 3) := by decide +kernel
theorem dX3_takePatterns_10 : decode cX3_takePatterns 10 = .ok (.iload_n 2, 1) := by decide +kernel
theorem dX3_takePatterns_11 : decode cX3_takePatterns 11 = .ok (.aload_n 1, 1) := by decide +kernel
theorem dX3_takePatterns_12 : decode cX3_takePatterns 12 = .ok (.arraylength, 1) := by decide +kernel
theorem dX3_takePatterns_13 : decode cX3_takePatterns 13 = .ok (.if_icmp .ge 21, 3) := by decide +kernel
theorem dX3_takePatterns_16 : decode cX3_takePatterns 16 = .ok (.aload_n 0, 1) := by decide +kernel
theorem dX3_takePatterns_17 : decode cX3_takePatterns 17 = .ok (.getfield 11, 3) := by decide +kernel
theorem dX3_takePatterns_20 : decode cX3_takePatterns 20 = .ok (.iload_n 2, 1) := by decide +kernel
theorem dX3_takePatterns_21 : decode cX3_takePatterns 21 = .ok (.aaload, 1) := by decide +kernel
theorem dX3_takePatterns_22 : decode cX3_takePatterns 22 = .ok (.aload_n 1, 1) := by decide +kernel
theorem dX3_takePatterns_23 : decode cX3_takePatterns 23 = .ok (.iload_n 2, 1) := by decide +kernel
theorem dX3_takePatterns_24 : decode cX3_takePatterns 24 = .ok (.iaload, 1) := by decide +kernel
theorem dX3_takePatterns_25 : decode cX3_takePatterns 25 = .ok (.putfield 88, 3) := by decide +kernel
theorem dX3_takePatterns_28 : decode cX3_takePatterns 28 = .ok (.iinc 2 1, 3) := by decide +kernel
theorem dX3_takePatterns_31 : decode cX3_takePatterns 31 = .ok (.goto (-29), 3) := by decide +kernel
theorem dX3_takePatterns_34 : decode cX3_takePatterns 34 = .ok (.return_, 1) := by decide +kernel
set_option maxRecDepth 20000 in
theorem ggX3_frameLength_X3_slotStart : GoodIn wsX3_frameLength wsX3_slotStart := goodIn_r _ [6, 7, 8, 9, 10, 11, 12, 13, 14, 15, 16, 17, 18, 19, 20, 21, 22, 23, 24, 25, 26, 27, 28, 29, 30] (by decide +kernel) (by decide +kernel)
set_option maxRecDepth 20000 in
theorem gX3_frameLength_X3_slotStart : GoodIn wsX3_frameLength (wsV RX3 91 RX3 yX3_slotStart wsX3_slotStart) := goodIn_app (goodIn_of _ (by decide +kernel)) ggX3_frameLength_X3_slotStart
theorem dX3_frameLength_0 : decode cX3_frameLength 0 = .ok (.aload_n 0, 1) := by decide +kernel
theorem dX3_frameLength_1 : decode cX3_frameLength 1 = .ok (.aload_n 0, 1) := by decide +kernel
theorem dX3_frameLength_2 : decode cX3_frameLength 2 = .ok (.getfield 17, 3) := by decide +kernel
theorem dX3_frameLength_5 : decode cX3_frameLength 5 = .ok (.invokevirtual 91, 3) := by decide +kernel
theorem dX3_frameLength_8 : decode cX3_frameLength 8 = .ok (.ireturn, 1) := by decide +kernel
theorem dX3_slotStart_0 : decode cX3_slotStart 0 = .ok (.iconst 0, 1) := by decide +kernel
theorem dX3_slotStart_1 : decode cX3_slotStart 1 = .ok (.istore_n 2, 1) := by decide +kernel
theorem dX3_slotStart_2 : decode cX3_slotStart 2 = .ok (.iconst 0, 1) := by decide +kernel
theorem dX3_slotStart_3 : decode cX3_slotStart 3 = .ok (.istore_n 3, 1) := by decide +kernel
theorem dX3_slotStart_4 : decode cX3_slotStart 4 = .ok (.iload_n 3, 1) := by decide +kernel
theorem dX3_slotStart_5 : decode cX3_slotStart 5 = .ok (.iload_n 1, 1) := by decide +kernel
theorem dX3_slotStart_6 : decode cX3_slotStart 6 = .ok (.if_icmp .ge 21, 3) := by decide +kernel
theorem dX3_slotStart_9 : decode cX3_slotStart 9 = .ok (.iload_n 2, 1) := by decide +kernel
theorem dX3_slotStart_10 : decode cX3_slotStart 10 = .ok (.aload_n 0, 1) := by decide +kernel
theorem dX3_slotStart_11 : decode cX3_slotStart 11 = .ok (.getfield 11, 3) := by decide +kernel
theorem dX3_slotStart_14 : decode cX3_slotStart 14 = .ok (.iload_n 3, 1) := by decide +kernel
theorem dX3_slotStart_15 : decode cX3_slotStart 15 = .ok (.aaload, 1) := by decide +kernel
theorem dX3_slotStart_16 : decode cX3_slotStart 16 = .ok (.getfield 85, 3) := by decide +kernel
theorem dX3_slotStart_19 : decode cX3_slotStart 19 = .ok (.iadd, 1) := by decide +kernel
theorem dX3_slotStart_20 : decode cX3_slotStart 20 = .ok (.istore_n 2, 1) := by decide +kernel
theorem dX3_slotStart_21 : decode cX3_slotStart 21 = .ok (.iinc 3 1, 3) := by decide +kernel
theorem dX3_slotStart_24 : decode cX3_slotStart 24 = .ok (.goto (-20), 3) := by decide +kernel
theorem dX3_slotStart_27 : decode cX3_slotStart 27 = .ok (.iload_n 2, 1) := by decide +kernel
theorem dX3_slotStart_28 : decode cX3_slotStart 28 = .ok (.ireturn, 1) := by decide +kernel
theorem dX3_slotNow_0 : decode cX3_slotNow 0 = .ok (.iconst 0, 1) := by decide +kernel
theorem dX3_slotNow_1 : decode cX3_slotNow 1 = .ok (.istore_n 1, 1) := by decide +kernel
theorem dX3_slotNow_2 : decode cX3_slotNow 2 = .ok (.aload_n 0, 1) := by decide +kernel
theorem dX3_slotNow_3 : decode cX3_slotNow 3 = .ok (.getfield 11, 3) := by decide +kernel
theorem dX3_slotNow_6 : decode cX3_slotNow 6 = .ok (.iconst 0, 1) := by decide +kernel
theorem dX3_slotNow_7 : decode cX3_slotNow 7 = .ok (.aaload, 1) := by decide +kernel
theorem dX3_slotNow_8 : decode cX3_slotNow 8 = .ok (.getfield 85, 3) := by decide +kernel
theorem dX3_slotNow_11 : decode cX3_slotNow 11 = .ok (.istore_n 2, 1) := by decide +kernel
theorem dX3_slotNow_12 : decode cX3_slotNow 12 = .ok (.iload_n 1, 1) := by decide +kernel
theorem dX3_slotNow_13 : decode cX3_slotNow 13 = .ok (.aload_n 0, 1) := by decide +kernel
theorem dX3_slotNow_14 : decode cX3_slotNow 14 = .ok (.getfield 17, 3) := by decide +kernel
theorem dX3_slotNow_17 : decode cX3_slotNow 17 = .ok (.iconst 1, 1) := by decide +kernel
theorem dX3_slotNow_18 : decode cX3_slotNow 18 = .ok (.isub, 1) := by decide +kernel
theorem dX3_slotNow_19 : decode cX3_slotNow 19 = .ok (.if_icmp .ge 29, 3) := by decide +kernel
theorem dX3_slotNow_22 : decode cX3_slotNow 22 = .ok (.aload_n 0, 1) := by decide +kernel
theorem dX3_slotNow_23 : decode cX3_slotNow 23 = .ok (.getfield 56, 3) := by decide +kernel
theorem dX3_slotNow_26 : decode cX3_slotNow 26 = .ok (.iload_n 2, 1) := by decide +kernel
theorem dX3_slotNow_27 : decode cX3_slotNow 27 = .ok (.if_icmp .lt 21, 3) := by decide +kernel
theorem dX3_slotNow_30 : decode cX3_slotNow 30 = .ok (.iinc 1 1, 3) := by decide +kernel
theorem dX3_slotNow_33 : decode cX3_slotNow 33 = .ok (.iload_n 2, 1) := by decide +kernel
theorem dX3_slotNow_34 : decode cX3_slotNow 34 = .ok (.aload_n 0, 1) := by decide +kernel
theorem dX3_slotNow_35 : decode cX3_slotNow 35 = .ok (.getfield 11, 3) := by decide +kernel
theorem dX3_slotNow_38 : decode cX3_slotNow 38 = .ok (.iload_n 1, 1) := by decide +kernel
theorem dX3_slotNow_39 : decode cX3_slotNow 39 = .ok (.aaload, 1) := by decide +kernel
theorem dX3_slotNow_40 : decode cX3_slotNow 40 = .ok (.getfield 85, 3) := by decide +kernel
theorem dX3_slotNow_43 : decode cX3_slotNow 43 = .ok (.iadd, 1) := by decide +kernel
theorem dX3_slotNow_44 : decode cX3_slotNow 44 = .ok (.istore_n 2, 1) := by decide +kernel
theorem dX3_slotNow_45 : decode cX3_slotNow 45 = .ok (.goto (-33), 3) := by decide +kernel
theorem dX3_slotNow_48 : decode cX3_slotNow 48 = .ok (.iload_n 1, 1) := by decide +kernel
theorem dX3_slotNow_49 : decode cX3_slotNow 49 = .ok (.ireturn, 1) := by decide +kernel
theorem dX3_isGroupOn_0 : decode cX3_isGroupOn 0 = .ok (.aload_n 0, 1) := by decide +kernel
theorem dX3_isGroupOn_1 : decode cX3_isGroupOn 1 = .ok (.getfield 21, 3) := by decide +kernel
theorem dX3_isGroupOn_4 : decode cX3_isGroupOn 4 = .ok (.iload_n 1, 1) := by decide +kernel
theorem dX3_isGroupOn_5 : decode cX3_isGroupOn 5 = .ok (.iaload, 1) := by decide +kernel
theorem dX3_isGroupOn_6 : decode cX3_isGroupOn 6 = .ok (.aload_n 0, 1) := by decide +kernel
theorem dX3_isGroupOn_7 : decode cX3_isGroupOn 7 = .ok (.getfield 25, 3) := by decide +kernel
theorem dX3_isGroupOn_10 : decode cX3_isGroupOn 10 = .ok (.iload_n 1, 1) := by decide +kernel
theorem dX3_isGroupOn_11 : decode cX3_isGroupOn 11 = .ok (.iaload, 1) := by decide +kernel
theorem dX3_isGroupOn_12 : decode cX3_isGroupOn 12 = .ok (.iadd, 1) := by decide +kernel
theorem dX3_isGroupOn_13 : decode cX3_isGroupOn 13 = .ok (.istore_n 2, 1) := by decide +kernel
theorem dX3_isGroupOn_14 : decode cX3_isGroupOn 14 = .ok (.iload_n 2, 1) := by decide +kernel
theorem dX3_isGroupOn_15 : decode cX3_isGroupOn 15 = .ok (.ifCond .le 18, 3) := by decide +kernel
theorem dX3_isGroupOn_18 : decode cX3_isGroupOn 18 = .ok (.aload_n 0, 1) := by decide +kernel
theorem dX3_isGroupOn_19 : decode cX3_isGroupOn 19 = .ok (.getfield 53, 3) := by decide +kernel
theorem dX3_isGroupOn_22 : decode cX3_isGroupOn 22 = .ok (.iload_n 2, 1) := by decide +kernel
theorem dX3_isGroupOn_23 : decode cX3_isGroupOn 23 = .ok (.irem, 1) := by decide +kernel
theorem dX3_isGroupOn_24 : decode cX3_isGroupOn 24 = .ok (.aload_n 0, 1) := by decide +kernel
theorem dX3_isGroupOn_25 : decode cX3_isGroupOn 25 = .ok (.getfield 21, 3) := by decide +kernel
theorem dX3_isGroupOn_28 : decode cX3_isGroupOn 28 = .ok (.iload_n 1, 1) := by decide +kernel
theorem dX3_isGroupOn_29 : decode cX3_isGroupOn 29 = .ok (.iaload, 1) := by decide +kernel
theorem dX3_isGroupOn_30 : decode cX3_isGroupOn 30 = .ok (.if_icmp .ge 7, 3) := by decide +kernel
theorem dX3_isGroupOn_33 : decode cX3_isGroupOn 33 = .ok (.iconst 1, 1) := by decide +kernel
theorem dX3_isGroupOn_34 : decode cX3_isGroupOn 34 = .ok (.goto 4, 3) := by decide +kernel
theorem dX3_isGroupOn_37 : decode cX3_isGroupOn 37 = .ok (.iconst 0, 1) := by decide +kernel
theorem dX3_isGroupOn_38 : decode cX3_isGroupOn 38 = .ok (.ireturn, 1) := by decide +kernel
theorem dX3_digitsInGroup_0 : decode cX3_digitsInGroup 0 = .ok (.iconst 0, 1) := by decide +kernel
theorem dX3_digitsInGroup_1 : decode cX3_digitsInGroup 1 = .ok (.istore_n 2, 1) := by decide +kernel
theorem dX3_digitsInGroup_2 : decode cX3_digitsInGroup 2 = .ok (.iconst 0, 1) := by decide +kernel
theorem dX3_digitsInGroup_3 : decode cX3_digitsInGroup 3 = .ok (.istore_n 3, 1) := by decide +kernel
theorem dX3_digitsInGroup_4 : decode cX3_digitsInGroup 4 = .ok (.iload_n 3, 1) := by decide +kernel
theorem dX3_digitsInGroup_5 : decode cX3_digitsInGroup 5 = .ok (.aload_n 0, 1) := by decide +kernel
theorem dX3_digitsInGroup_6 : decode cX3_digitsInGroup 6 = .ok (.getfield 17, 3) := by decide +kernel
theorem dX3_digitsInGroup_9 : decode cX3_digitsInGroup 9 = .ok (.if_icmp .ge 25, 3) := by decide +kernel
theorem dX3_digitsInGroup_12 : decode cX3_digitsInGroup 12 = .ok (.aload_n 0, 1) := by decide +kernel
theorem dX3_digitsInGroup_13 : decode cX3_digitsInGroup 13 = .ok (.getfield 11, 3) := by decide +kernel
theorem dX3_digitsInGroup_16 : decode cX3_digitsInGroup 16 = .ok (.iload_n 3, 1) := by decide +kernel
theorem dX3_digitsInGroup_17 : decode cX3_digitsInGroup 17 = .ok (.aaload, 1) := by decide +kernel
theorem dX3_digitsInGroup_18 : decode cX3_digitsInGroup 18 = .ok (.getfield 95, 3) := by decide +kernel
theorem dX3_digitsInGroup_21 : decode cX3_digitsInGroup 21 = .ok (.iload_n 1, 1) := by decide +kernel
theorem dX3_digitsInGroup_22 : decode cX3_digitsInGroup 22 = .ok (.if_icmp .ne 6, 3) := by decide +kernel
theorem dX3_digitsInGroup_25 : decode cX3_digitsInGroup 25 = .ok (.iinc 2 1, 3) := by decide +kernel
theorem dX3_digitsInGroup_28 : decode cX3_digitsInGroup 28 = .ok (.iinc 3 1, 3) := by decide +kernel
theorem dX3_digitsInGroup_31 : decode cX3_digitsInGroup 31 = .ok (.goto (-27), 3) := by decide +kernel
theorem dX3_digitsInGroup_34 : decode cX3_digitsInGroup 34 = .ok (.iload_n 2, 1) := by decide +kernel
theorem dX3_digitsInGroup_35 : decode cX3_digitsInGroup 35 = .ok (.ireturn, 1) := by decide +kernel
set_option maxRecDepth 20000 in
theorem ggX3_brokenSegments_J6_bitCount_0f7a4 : GoodIn wsX3_brokenSegments wsJ6_bitCount_0f7a4 := goodIn_r _ [7, 8, 9, 10] (by decide +kernel) (by decide +kernel)
set_option maxRecDepth 20000 in
theorem gX3_brokenSegments_J6_bitCount_0f7a4 : GoodIn wsX3_brokenSegments (va_wsS RX3 101 yJ6_bitCount_0f7a4 wsJ6_bitCount_0f7a4) := goodIn_app (goodIn_of _ (by decide +kernel)) ggX3_brokenSegments_J6_bitCount_0f7a4
theorem dX3_brokenSegments_0 : decode cX3_brokenSegments 0 = .ok (.iconst 0, 1) := by decide +kernel
theorem dX3_brokenSegments_1 : decode cX3_brokenSegments 1 = .ok (.istore_n 1, 1) := by decide +kernel
theorem dX3_brokenSegments_2 : decode cX3_brokenSegments 2 = .ok (.iconst 0, 1) := by decide +kernel
theorem dX3_brokenSegments_3 : decode cX3_brokenSegments 3 = .ok (.istore_n 2, 1) := by decide +kernel
theorem dX3_brokenSegments_4 : decode cX3_brokenSegments 4 = .ok (.iload_n 2, 1) := by decide +kernel
theorem dX3_brokenSegments_5 : decode cX3_brokenSegments 5 = .ok (.aload_n 0, 1) := by decide +kernel
theorem dX3_brokenSegments_6 : decode cX3_brokenSegments 6 = .ok (.getfield 17, 3) := by decide +kernel
theorem dX3_brokenSegments_9 : decode cX3_brokenSegments 9 = .ok (.if_icmp .ge 24, 3) := by decide +kernel
theorem dX3_brokenSegments_12 : decode cX3_brokenSegments 12 = .ok (.iload_n 1, 1) := by decide +kernel
theorem dX3_brokenSegments_13 : decode cX3_brokenSegments 13 = .ok (.aload_n 0, 1) := by decide +kernel
theorem dX3_brokenSegments_14 : decode cX3_brokenSegments 14 = .ok (.getfield 11, 3) := by decide +kernel
theorem dX3_brokenSegments_17 : decode cX3_brokenSegments 17 = .ok (.iload_n 2, 1) := by decide +kernel
theorem dX3_brokenSegments_18 : decode cX3_brokenSegments 18 = .ok (.aaload, 1) := by decide +kernel
theorem dX3_brokenSegments_19 : decode cX3_brokenSegments 19 = .ok (.getfield 98, 3) := by decide +kernel
theorem dX3_brokenSegments_22 : decode cX3_brokenSegments 22 = .ok (.invokestatic 101, 3) := by decide +kernel
theorem dX3_brokenSegments_25 : decode cX3_brokenSegments 25 = .ok (.iadd, 1) := by decide +kernel
theorem dX3_brokenSegments_26 : decode cX3_brokenSegments 26 = .ok (.istore_n 1, 1) := by decide +kernel
theorem dX3_brokenSegments_27 : decode cX3_brokenSegments 27 = .ok (.iinc 2 1, 3) := by decide +kernel
theorem dX3_brokenSegments_30 : decode cX3_brokenSegments 30 = .ok (.goto (-26), 3) := by decide +kernel
theorem dX3_brokenSegments_33 : decode cX3_brokenSegments 33 = .ok (.iload_n 1, 1) := by decide +kernel
theorem dX3_brokenSegments_34 : decode cX3_brokenSegments 34 = .ok (.ireturn, 1) := by decide +kernel
set_option maxRecDepth 20000 in
theorem ggX3_isDriven_X0_litPartAt : GoodIn wsX3_isDriven wsX0_litPartAt := goodIn_r _ [10, 11, 12, 39, 40, 41, 42, 43, 44, 45, 46, 47] (by decide +kernel) (by decide +kernel)
set_option maxRecDepth 20000 in
theorem gX3_isDriven_X0_litPartAt : GoodIn wsX3_isDriven (wsV RX3 109 RX0 yX0_litPartAt wsX0_litPartAt) := goodIn_app (goodIn_of _ (by decide +kernel)) ggX3_isDriven_X0_litPartAt
set_option maxRecDepth 20000 in
theorem ggX3_isDriven_X3_slotStart : GoodIn wsX3_isDriven wsX3_slotStart := goodIn_r _ [17, 1, 18, 26, 27, 28, 29, 30, 31, 32, 33, 34, 35, 36, 37, 38, 39, 40, 41, 42, 43, 44, 45, 46, 47] (by decide +kernel) (by decide +kernel)
set_option maxRecDepth 20000 in
theorem gX3_isDriven_X3_slotStart : GoodIn wsX3_isDriven (wsV RX3 91 RX3 yX3_slotStart wsX3_slotStart) := goodIn_app (goodIn_of _ (by decide +kernel)) ggX3_isDriven_X3_slotStart
set_option maxRecDepth 20000 in
theorem ggX3_isDriven_X3_isGroupOn : GoodIn wsX3_isDriven wsX3_isGroupOn := goodIn_r _ [22, 23, 24, 25, 26, 27, 28, 29, 30, 31, 32, 33, 34, 35, 36, 37, 38] (by decide +kernel) (by decide +kernel)
set_option maxRecDepth 20000 in
theorem gX3_isDriven_X3_isGroupOn : GoodIn wsX3_isDriven (wsV RX3 112 RX3 yX3_isGroupOn wsX3_isGroupOn) := goodIn_app (goodIn_of _ (by decide +kernel)) ggX3_isDriven_X3_isGroupOn
theorem dX3_isDriven_0 : decode cX3_isDriven 0 = .ok (.aload_n 0, 1) := by decide +kernel
theorem dX3_isDriven_1 : decode cX3_isDriven 1 = .ok (.getfield 11, 3) := by decide +kernel
theorem dX3_isDriven_4 : decode cX3_isDriven 4 = .ok (.iload_n 1, 1) := by decide +kernel
theorem dX3_isDriven_5 : decode cX3_isDriven 5 = .ok (.aaload, 1) := by decide +kernel
theorem dX3_isDriven_6 : decode cX3_isDriven 6 = .ok (.astore_n 2, 1) := by decide +kernel
theorem dX3_isDriven_7 : decode cX3_isDriven 7 = .ok (.aload_n 0, 1) := by decide +kernel
theorem dX3_isDriven_8 : decode cX3_isDriven 8 = .ok (.getfield 59, 3) := by decide +kernel
theorem dX3_isDriven_11 : decode cX3_isDriven 11 = .ok (.ifCond .le 7, 3) := by decide +kernel
theorem dX3_isDriven_14 : decode cX3_isDriven 14 = .ok (.iconst 1, 1) := by decide +kernel
theorem dX3_isDriven_15 : decode cX3_isDriven 15 = .ok (.goto 4, 3) := by decide +kernel
theorem dX3_isDriven_18 : decode cX3_isDriven 18 = .ok (.iconst 0, 1) := by decide +kernel
theorem dX3_isDriven_19 : decode cX3_isDriven 19 = .ok (.istore_n 3, 1) := by decide +kernel
theorem dX3_isDriven_20 : decode cX3_isDriven 20 = .ok (.aload_n 2, 1) := by decide +kernel
theorem dX3_isDriven_21 : decode cX3_isDriven 21 = .ok (.iload_n 3, 1) := by decide +kernel
theorem dX3_isDriven_22 : decode cX3_isDriven 22 = .ok (.ifCond .eq 8, 3) := by decide +kernel
theorem dX3_isDriven_25 : decode cX3_isDriven 25 = .ok (.bipush 15, 2) := by decide +kernel
theorem dX3_isDriven_27 : decode cX3_isDriven 27 = .ok (.goto 7, 3) := by decide +kernel
theorem dX3_isDriven_30 : decode cX3_isDriven 30 = .ok (.aload_n 2, 1) := by decide +kernel
theorem dX3_isDriven_31 : decode cX3_isDriven 31 = .ok (.getfield 106, 3) := by decide +kernel
theorem dX3_isDriven_34 : decode cX3_isDriven 34 = .ok (.invokevirtual 109, 3) := by decide +kernel
theorem dX3_isDriven_37 : decode cX3_isDriven 37 = .ok (.istore 4, 2) := by decide +kernel
theorem dX3_isDriven_39 : decode cX3_isDriven 39 = .ok (.aload_n 0, 1) := by decide +kernel
theorem dX3_isDriven_40 : decode cX3_isDriven 40 = .ok (.getfield 56, 3) := by decide +kernel
theorem dX3_isDriven_43 : decode cX3_isDriven 43 = .ok (.aload_n 0, 1) := by decide +kernel
theorem dX3_isDriven_44 : decode cX3_isDriven 44 = .ok (.iload_n 1, 1) := by decide +kernel
theorem dX3_isDriven_45 : decode cX3_isDriven 45 = .ok (.invokevirtual 91, 3) := by decide +kernel
theorem dX3_isDriven_48 : decode cX3_isDriven 48 = .ok (.isub, 1) := by decide +kernel
theorem dX3_isDriven_49 : decode cX3_isDriven 49 = .ok (.iload 4, 2) := by decide +kernel
theorem dX3_isDriven_51 : decode cX3_isDriven 51 = .ok (.if_icmp .ge 22, 3) := by decide +kernel
theorem dX3_isDriven_54 : decode cX3_isDriven 54 = .ok (.iload_n 3, 1) := by decide +kernel
theorem dX3_isDriven_55 : decode cX3_isDriven 55 = .ok (.ifCond .ne 14, 3) := by decide +kernel
theorem dX3_isDriven_58 : decode cX3_isDriven 58 = .ok (.aload_n 0, 1) := by decide +kernel
theorem dX3_isDriven_59 : decode cX3_isDriven 59 = .ok (.aload_n 2, 1) := by decide +kernel
theorem dX3_isDriven_60 : decode cX3_isDriven 60 = .ok (.getfield 95, 3) := by decide +kernel
theorem dX3_isDriven_63 : decode cX3_isDriven 63 = .ok (.invokevirtual 112, 3) := by decide +kernel
theorem dX3_isDriven_66 : decode cX3_isDriven 66 = .ok (.ifCond .eq 7, 3) := by decide +kernel
theorem dX3_isDriven_69 : decode cX3_isDriven 69 = .ok (.iconst 1, 1) := by decide +kernel
theorem dX3_isDriven_70 : decode cX3_isDriven 70 = .ok (.goto 4, 3) := by decide +kernel
theorem dX3_isDriven_73 : decode cX3_isDriven 73 = .ok (.iconst 0, 1) := by decide +kernel
theorem dX3_isDriven_74 : decode cX3_isDriven 74 = .ok (.ireturn, 1) := by decide +kernel
set_option maxRecDepth 20000 in
theorem ggX3_litNext_X3_slotNow : GoodIn wsX3_litNext wsX3_slotNow := goodIn_r _ [9, 2, 10, 11, 12, 37, 38, 39, 40, 41, 42, 43, 44, 45, 46, 47, 48, 49, 50, 51, 52, 53, 54, 55, 56, 57, 58] (by decide +kernel) (by decide +kernel)
set_option maxRecDepth 20000 in
theorem gX3_litNext_X3_slotNow : GoodIn wsX3_litNext (wsV RX3 116 RX3 yX3_slotNow wsX3_slotNow) := goodIn_app (goodIn_of _ (by decide +kernel)) ggX3_litNext_X3_slotNow
set_option maxRecDepth 20000 in
theorem ggX3_litNext_X3_isDriven : GoodIn wsX3_litNext wsX3_isDriven := goodIn_r _ [16, 2, 1, 17, 12, 18, 19, 20, 21, 22, 23, 24, 25, 26, 27, 28, 8, 29, 10, 30, 31, 32, 33, 34, 35, 36, 37, 38, 39, 40, 41, 42, 43, 44, 45, 46, 47, 48, 49, 50, 51, 52, 53, 54, 55, 56, 57, 58] (by decide +kernel) (by decide +kernel)
set_option maxRecDepth 20000 in
theorem gX3_litNext_X3_isDriven : GoodIn wsX3_litNext (wsV RX3 120 RX3 yX3_isDriven wsX3_isDriven) := goodIn_app (goodIn_of _ (by decide +kernel)) ggX3_litNext_X3_isDriven
theorem dX3_litNext_0 : decode cX3_litNext 0 = .ok (.aload_n 0, 1) := by decide +kernel
theorem dX3_litNext_1 : decode cX3_litNext 1 = .ok (.invokevirtual 116, 3) := by decide +kernel
theorem dX3_litNext_4 : decode cX3_litNext 4 = .ok (.istore_n 1, 1) := by decide +kernel
theorem dX3_litNext_5 : decode cX3_litNext 5 = .ok (.aload_n 0, 1) := by decide +kernel
theorem dX3_litNext_6 : decode cX3_litNext 6 = .ok (.iload_n 1, 1) := by decide +kernel
theorem dX3_litNext_7 : decode cX3_litNext 7 = .ok (.invokevirtual 120, 3) := by decide +kernel
theorem dX3_litNext_10 : decode cX3_litNext 10 = .ok (.ifCond .ne 5, 3) := by decide +kernel
theorem dX3_litNext_13 : decode cX3_litNext 13 = .ok (.iconst 0, 1) := by decide +kernel
theorem dX3_litNext_14 : decode cX3_litNext 14 = .ok (.ireturn, 1) := by decide +kernel
theorem dX3_litNext_15 : decode cX3_litNext 15 = .ok (.aload_n 0, 1) := by decide +kernel
theorem dX3_litNext_16 : decode cX3_litNext 16 = .ok (.getfield 59, 3) := by decide +kernel
theorem dX3_litNext_19 : decode cX3_litNext 19 = .ok (.ifCond .le 9, 3) := by decide +kernel
theorem dX3_litNext_22 : decode cX3_litNext 22 = .ok (.sipush 255, 3) := by decide +kernel
theorem dX3_litNext_25 : decode cX3_litNext 25 = .ok (.goto 12, 3) := by decide +kernel
theorem dX3_litNext_28 : decode cX3_litNext 28 = .ok (.aload_n 0, 1) := by decide +kernel
theorem dX3_litNext_29 : decode cX3_litNext 29 = .ok (.getfield 11, 3) := by decide +kernel
theorem dX3_litNext_32 : decode cX3_litNext 32 = .ok (.iload_n 1, 1) := by decide +kernel
theorem dX3_litNext_33 : decode cX3_litNext 33 = .ok (.aaload, 1) := by decide +kernel
theorem dX3_litNext_34 : decode cX3_litNext 34 = .ok (.getfield 88, 3) := by decide +kernel
theorem dX3_litNext_37 : decode cX3_litNext 37 = .ok (.istore_n 2, 1) := by decide +kernel
theorem dX3_litNext_38 : decode cX3_litNext 38 = .ok (.iload_n 2, 1) := by decide +kernel
theorem dX3_litNext_39 : decode cX3_litNext 39 = .ok (.aload_n 0, 1) := by decide +kernel
theorem dX3_litNext_40 : decode cX3_litNext 40 = .ok (.getfield 11, 3) := by decide +kernel
theorem dX3_litNext_43 : decode cX3_litNext 43 = .ok (.iload_n 1, 1) := by decide +kernel
theorem dX3_litNext_44 : decode cX3_litNext 44 = .ok (.aaload, 1) := by decide +kernel
theorem dX3_litNext_45 : decode cX3_litNext 45 = .ok (.getfield 98, 3) := by decide +kernel
theorem dX3_litNext_48 : decode cX3_litNext 48 = .ok (.iconst (-1), 1) := by decide +kernel
theorem dX3_litNext_49 : decode cX3_litNext 49 = .ok (.ixor, 1) := by decide +kernel
theorem dX3_litNext_50 : decode cX3_litNext 50 = .ok (.iand, 1) := by decide +kernel
theorem dX3_litNext_51 : decode cX3_litNext 51 = .ok (.ireturn, 1) := by decide +kernel
set_option maxRecDepth 20000 in
theorem ggX3_runTicks_X3_runTick : GoodIn wsX3_runTicks wsX3_runTick := goodIn_r _ [5, 6, 7, 8, 9, 10, 11, 12, 13, 14, 15, 4, 16, 17, 18, 19, 20, 21, 22, 23, 24, 25, 26, 27, 28, 29, 30, 31, 32, 33, 34, 35, 36, 37, 38, 39, 40, 41, 42, 43, 44, 45, 46, 47, 48, 49, 50, 51, 52, 53, 54, 55, 56, 57, 58, 59, 60, 61, 62, 63, 64, 65, 66, 67, 68, 69, 70, 71, 72, 73, 74, 75, 76, 77, 78, 79, 80, 81, 82, 83, 84, 85, 86, 87, 88, 89, 90, 91, 92, 93, 94, 95, 96, 97, 98, 99, 100, 101, 102, 103, 104, 105, 106, 107, 108, 109, 110, 111, 112, 113, 114] (by decide +kernel) (by decide +kernel)
set_option maxRecDepth 20000 in
theorem gX3_runTicks_X3_runTick : GoodIn wsX3_runTicks (wsV RX3 123 RX3 yX3_runTick wsX3_runTick) := goodIn_app (goodIn_of _ (by decide +kernel)) ggX3_runTicks_X3_runTick
theorem dX3_runTicks_0 : decode cX3_runTicks 0 = .ok (.iconst 0, 1) := by decide +kernel
theorem dX3_runTicks_1 : decode cX3_runTicks 1 = .ok (.istore_n 2, 1) := by decide +kernel
theorem dX3_runTicks_2 : decode cX3_runTicks 2 = .ok (.iconst 0, 1) := by decide +kernel
theorem dX3_runTicks_3 : decode cX3_runTicks 3 = .ok (.istore_n 3, 1) := by decide +kernel
theorem dX3_runTicks_4 : decode cX3_runTicks 4 = .ok (.iload_n 3, 1) := by decide +kernel
theorem dX3_runTicks_5 : decode cX3_runTicks 5 = .ok (.iload_n 1, 1) := by decide +kernel
theorem dX3_runTicks_6 : decode cX3_runTicks 6 = .ok (.if_icmp .ge 16, 3) := by decide +kernel
theorem dX3_runTicks_9 : decode cX3_runTicks 9 = .ok (.iload_n 2, 1) := by decide +kernel
theorem dX3_runTicks_10 : decode cX3_runTicks 10 = .ok (.aload_n 0, 1) := by decide +kernel
theorem dX3_runTicks_11 : decode cX3_runTicks 11 = .ok (.invokevirtual 123, 3) := by decide +kernel
theorem dX3_runTicks_14 : decode cX3_runTicks 14 = .ok (.iadd, 1) := by decide +kernel
theorem dX3_runTicks_15 : decode cX3_runTicks 15 = .ok (.istore_n 2, 1) := by decide +kernel
theorem dX3_runTicks_16 : decode cX3_runTicks 16 = .ok (.iinc 3 1, 3) := by decide +kernel
theorem dX3_runTicks_19 : decode cX3_runTicks 19 = .ok (.goto (-15), 3) := by decide +kernel
theorem dX3_runTicks_22 : decode cX3_runTicks 22 = .ok (.iload_n 2, 1) := by decide +kernel
theorem dX3_runTicks_23 : decode cX3_runTicks 23 = .ok (.ireturn, 1) := by decide +kernel
set_option maxRecDepth 20000 in
theorem ggX3_runTick_X3_slotNow : GoodIn wsX3_runTick wsX3_slotNow := goodIn_r _ [12, 1, 13, 4, 7, 89, 90, 91, 92, 93, 94, 95, 96, 97, 98, 99, 100, 101, 102, 103, 104, 105, 106, 107, 108, 109, 110] (by decide +kernel) (by decide +kernel)
set_option maxRecDepth 20000 in
theorem gX3_runTick_X3_slotNow : GoodIn wsX3_runTick (wsV RX3 116 RX3 yX3_slotNow wsX3_slotNow) := goodIn_app (goodIn_of _ (by decide +kernel)) ggX3_runTick_X3_slotNow
set_option maxRecDepth 20000 in
theorem ggX3_runTick_X3_litNext : GoodIn wsX3_runTick wsX3_litNext := goodIn_r _ [17, 18, 1, 19, 20, 8, 9, 10, 11, 12, 13, 4, 7, 21, 22, 23, 24, 25, 26, 27, 28, 29, 30, 31, 32, 33, 34, 35, 36, 37, 38, 39, 40, 41, 42, 43, 44, 89, 90, 91, 92, 93, 94, 95, 96, 97, 98, 99, 100, 101, 102, 103, 104, 105, 106, 107, 108, 109, 110] (by decide +kernel) (by decide +kernel)
set_option maxRecDepth 20000 in
theorem gX3_runTick_X3_litNext : GoodIn wsX3_runTick (wsV RX3 126 RX3 yX3_litNext wsX3_litNext) := goodIn_app (goodIn_of _ (by decide +kernel)) ggX3_runTick_X3_litNext
set_option maxRecDepth 20000 in
theorem ggX3_runTick_X3_isDriven : GoodIn wsX3_runTick wsX3_isDriven := goodIn_r _ [24, 1, 18, 25, 7, 26, 27, 28, 29, 30, 31, 32, 33, 34, 35, 36, 11, 37, 13, 38, 39, 40, 41, 42, 43, 44, 89, 90, 91, 92, 93, 94, 95, 96, 97, 98, 99, 100, 101, 102, 103, 104, 105, 106, 107, 108, 109, 110] (by decide +kernel) (by decide +kernel)
set_option maxRecDepth 20000 in
theorem gX3_runTick_X3_isDriven : GoodIn wsX3_runTick (wsV RX3 120 RX3 yX3_isDriven wsX3_isDriven) := goodIn_app (goodIn_of _ (by decide +kernel)) ggX3_runTick_X3_isDriven
set_option maxRecDepth 20000 in
theorem ggX3_runTick_X0_runTick : GoodIn wsX3_runTick wsX0_runTick := goodIn_r _ [48, 49, 50, 51, 52, 53, 54, 55, 56, 57, 58, 59, 60, 61, 62, 63, 102, 103, 104, 105, 106, 107, 108, 109, 110] (by decide +kernel) (by decide +kernel)
set_option maxRecDepth 20000 in
theorem gX3_runTick_X0_runTick : GoodIn wsX3_runTick (wsV RX3 130 RX0 yX0_runTick wsX0_runTick) := goodIn_app (goodIn_of _ (by decide +kernel)) ggX3_runTick_X0_runTick
set_option maxRecDepth 20000 in
theorem ggX3_runTick_J6_bitCount_0f7a4 : GoodIn wsX3_runTick wsJ6_bitCount_0f7a4 := goodIn_r _ [67, 68, 69, 70] (by decide +kernel) (by decide +kernel)
set_option maxRecDepth 20000 in
theorem gX3_runTick_J6_bitCount_0f7a4 : GoodIn wsX3_runTick (va_wsS RX3 101 yJ6_bitCount_0f7a4 wsJ6_bitCount_0f7a4) := goodIn_app (goodIn_of _ (by decide +kernel)) ggX3_runTick_J6_bitCount_0f7a4
set_option maxRecDepth 20000 in
theorem ggX3_runTick_X3_runCurrent : GoodIn wsX3_runTick wsX3_runCurrent := goodIn_r _ [74, 75, 76, 77, 78, 79, 80, 89, 90, 91, 92, 93, 94, 95, 96, 97, 98, 99, 100, 101] (by decide +kernel) (by decide +kernel)
set_option maxRecDepth 20000 in
theorem gX3_runTick_X3_runCurrent : GoodIn wsX3_runTick (wsV RX3 133 RX3 yX3_runCurrent wsX3_runCurrent) := goodIn_app (goodIn_of _ (by decide +kernel)) ggX3_runTick_X3_runCurrent
set_option maxRecDepth 20000 in
theorem ggX3_runTick_X3_frameLength : GoodIn wsX3_runTick wsX3_frameLength := goodIn_r _ [84, 4, 34, 35, 36, 11, 37, 1, 13, 89, 90, 91, 92, 93, 94, 95, 96, 97, 98, 99, 100, 101, 102, 103, 104, 105, 106, 107, 108, 109, 110] (by decide +kernel) (by decide +kernel)
set_option maxRecDepth 20000 in
theorem gX3_runTick_X3_frameLength : GoodIn wsX3_runTick (wsV RX3 137 RX3 yX3_frameLength wsX3_frameLength) := goodIn_app (goodIn_of _ (by decide +kernel)) ggX3_runTick_X3_frameLength
set_option maxRecDepth 20000 in
theorem ggX3_runTick_X3_beginFrame : GoodIn wsX3_runTick wsX3_beginFrame := goodIn_r _ [88, 44, 7, 18, 89, 90, 91, 92, 93, 94, 95, 96, 97, 98, 99, 100, 101] (by decide +kernel) (by decide +kernel)
set_option maxRecDepth 20000 in
theorem gX3_runTick_X3_beginFrame : GoodIn wsX3_runTick (wsV RX3 82 RX3 yX3_beginFrame wsX3_beginFrame) := goodIn_app (goodIn_of _ (by decide +kernel)) ggX3_runTick_X3_beginFrame
theorem dX3_runTick_0 : decode cX3_runTick 0 = .ok (.aload_n 0, 1) := by decide +kernel
theorem dX3_runTick_1 : decode cX3_runTick 1 = .ok (.invokevirtual 116, 3) := by decide +kernel
theorem dX3_runTick_4 : decode cX3_runTick 4 = .ok (.istore_n 1, 1) := by decide +kernel
theorem dX3_runTick_5 : decode cX3_runTick 5 = .ok (.aload_n 0, 1) := by decide +kernel
theorem dX3_runTick_6 : decode cX3_runTick 6 = .ok (.invokevirtual 126, 3) := by decide +kernel
theorem dX3_runTick_9 : decode cX3_runTick 9 = .ok (.istore_n 2, 1) := by decide +kernel
theorem dX3_runTick_10 : decode cX3_runTick 10 = .ok (.aload_n 0, 1) := by decide +kernel
theorem dX3_runTick_11 : decode cX3_runTick 11 = .ok (.iload_n 1, 1) := by decide +kernel
theorem dX3_runTick_12 : decode cX3_runTick 12 = .ok (.invokevirtual 120, 3) := by decide +kernel
theorem dX3_runTick_15 : decode cX3_runTick 15 = .ok (.ifCond .eq 28, 3) := by decide +kernel
theorem dX3_runTick_18 : decode cX3_runTick 18 = .ok (.aload_n 0, 1) := by decide +kernel
theorem dX3_runTick_19 : decode cX3_runTick 19 = .ok (.getfield 11, 3) := by decide +kernel
theorem dX3_runTick_22 : decode cX3_runTick 22 = .ok (.iload_n 1, 1) := by decide +kernel
theorem dX3_runTick_23 : decode cX3_runTick 23 = .ok (.aaload, 1) := by decide +kernel
theorem dX3_runTick_24 : decode cX3_runTick 24 = .ok (.dup, 1) := by decide +kernel
theorem dX3_runTick_25 : decode cX3_runTick 25 = .ok (.getfield 129, 3) := by decide +kernel
theorem dX3_runTick_28 : decode cX3_runTick 28 = .ok (.iconst 1, 1) := by decide +kernel
theorem dX3_runTick_29 : decode cX3_runTick 29 = .ok (.iadd, 1) := by decide +kernel
theorem dX3_runTick_30 : decode cX3_runTick 30 = .ok (.putfield 129, 3) := by decide +kernel
theorem dX3_runTick_33 : decode cX3_runTick 33 = .ok (.aload_n 0, 1) := by decide +kernel
theorem dX3_runTick_34 : decode cX3_runTick 34 = .ok (.dup, 1) := by decide +kernel
theorem dX3_runTick_35 : decode cX3_runTick 35 = .ok (.getfield 62, 3) := by decide +kernel
theorem dX3_runTick_38 : decode cX3_runTick 38 = .ok (.iconst 1, 1) := by decide +kernel
theorem dX3_runTick_39 : decode cX3_runTick 39 = .ok (.iadd, 1) := by decide +kernel
theorem dX3_runTick_40 : decode cX3_runTick 40 = .ok (.putfield 62, 3) := by decide +kernel
theorem dX3_runTick_43 : decode cX3_runTick 43 = .ok (.iconst 0, 1) := by decide +kernel
theorem dX3_runTick_44 : decode cX3_runTick 44 = .ok (.istore_n 3, 1) := by decide +kernel
theorem dX3_runTick_45 : decode cX3_runTick 45 = .ok (.iload_n 3, 1) := by decide +kernel
theorem dX3_runTick_46 : decode cX3_runTick 46 = .ok (.aload_n 0, 1) := by decide +kernel
theorem dX3_runTick_47 : decode cX3_runTick 47 = .ok (.getfield 17, 3) := by decide +kernel
theorem dX3_runTick_50 : decode cX3_runTick 50 = .ok (.if_icmp .ge 40, 3) := by decide +kernel
theorem dX3_runTick_53 : decode cX3_runTick 53 = .ok (.aload_n 0, 1) := by decide +kernel
theorem dX3_runTick_54 : decode cX3_runTick 54 = .ok (.getfield 11, 3) := by decide +kernel
theorem dX3_runTick_57 : decode cX3_runTick 57 = .ok (.iload_n 3, 1) := by decide +kernel
theorem dX3_runTick_58 : decode cX3_runTick 58 = .ok (.aaload, 1) := by decide +kernel
theorem dX3_runTick_59 : decode cX3_runTick 59 = .ok (.iload_n 3, 1) := by decide +kernel
theorem dX3_runTick_60 : decode cX3_runTick 60 = .ok (.iload_n 1, 1) := by decide +kernel
theorem dX3_runTick_61 : decode cX3_runTick 61 = .ok (.if_icmp .ne 7, 3) := by decide +kernel
theorem dX3_runTick_64 : decode cX3_runTick 64 = .ok (.iload_n 2, 1) := by decide +kernel
theorem dX3_runTick_65 : decode cX3_runTick 65 = .ok (.goto 4, 3) := by decide +kernel
theorem dX3_runTick_68 : decode cX3_runTick 68 = .ok (.iconst 0, 1) := by decide +kernel
theorem dX3_runTick_69 : decode cX3_runTick 69 = .ok (.aload_n 0, 1) := by decide +kernel
theorem dX3_runTick_70 : decode cX3_runTick 70 = .ok (.getfield 36, 3) := by decide +kernel
theorem dX3_runTick_73 : decode cX3_runTick 73 = .ok (.iconst 0, 1) := by decide +kernel
theorem dX3_runTick_74 : decode cX3_runTick 74 = .ok (.iaload, 1) := by decide +kernel
theorem dX3_runTick_75 : decode cX3_runTick 75 = .ok (.aload_n 0, 1) := by decide +kernel
theorem dX3_runTick_76 : decode cX3_runTick 76 = .ok (.getfield 36, 3) := by decide +kernel
theorem dX3_runTick_79 : decode cX3_runTick 79 = .ok (.iconst 2, 1) := by decide +kernel
theorem dX3_runTick_80 : decode cX3_runTick 80 = .ok (.iaload, 1) := by decide +kernel
theorem dX3_runTick_81 : decode cX3_runTick 81 = .ok (.invokevirtual 130, 3) := by decide +kernel
theorem dX3_runTick_84 : decode cX3_runTick 84 = .ok (.iinc 3 1, 3) := by decide +kernel
theorem dX3_runTick_87 : decode cX3_runTick 87 = .ok (.goto (-42), 3) := by decide +kernel
theorem dX3_runTick_90 : decode cX3_runTick 90 = .ok (.iload_n 2, 1) := by decide +kernel
theorem dX3_runTick_91 : decode cX3_runTick 91 = .ok (.invokestatic 101, 3) := by decide +kernel
theorem dX3_runTick_94 : decode cX3_runTick 94 = .ok (.istore_n 3, 1) := by decide +kernel
theorem dX3_runTick_95 : decode cX3_runTick 95 = .ok (.aload_n 0, 1) := by decide +kernel
theorem dX3_runTick_96 : decode cX3_runTick 96 = .ok (.iload_n 3, 1) := by decide +kernel
theorem dX3_runTick_97 : decode cX3_runTick 97 = .ok (.invokevirtual 133, 3) := by decide +kernel
theorem dX3_runTick_100 : decode cX3_runTick 100 = .ok (.aload_n 0, 1) := by decide +kernel
theorem dX3_runTick_101 : decode cX3_runTick 101 = .ok (.dup, 1) := by decide +kernel
theorem dX3_runTick_102 : decode cX3_runTick 102 = .ok (.getfield 50, 3) := by decide +kernel
theorem dX3_runTick_105 : decode cX3_runTick 105 = .ok (.iconst 1, 1) := by decide +kernel
theorem dX3_runTick_106 : decode cX3_runTick 106 = .ok (.iadd, 1) := by decide +kernel
theorem dX3_runTick_107 : decode cX3_runTick 107 = .ok (.putfield 50, 3) := by decide +kernel
theorem dX3_runTick_110 : decode cX3_runTick 110 = .ok (.aload_n 0, 1) := by decide +kernel
theorem dX3_runTick_111 : decode cX3_runTick 111 = .ok (.dup, 1) := by decide +kernel
theorem dX3_runTick_112 : decode cX3_runTick 112 = .ok (.getfield 56, 3) := by decide +kernel
theorem dX3_runTick_115 : decode cX3_runTick 115 = .ok (.iconst 1, 1) := by decide +kernel
theorem dX3_runTick_116 : decode cX3_runTick 116 = .ok (.iadd, 1) := by decide +kernel
theorem dX3_runTick_117 : decode cX3_runTick 117 = .ok (.putfield 56, 3) := by decide +kernel
theorem dX3_runTick_120 : decode cX3_runTick 120 = .ok (.aload_n 0, 1) := by decide +kernel
